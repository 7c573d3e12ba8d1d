theorem dX2_init_0 : decode cX2_init 0 = .ok (.aload_n 0, 1) := by decide +kernel
theorem dX2_init_1 : decode cX2_init 1 = .ok (.invokespecial 1, 3) := by decide +kernel
theorem dX2_init_4 : decode cX2_init 4 = .ok (.aload_n 0, 1) := by decide +kernel
theorem dX2_init_5 : decode cX2_init 5 = .ok (.bipush 6, 2) := by decide +kernel
theorem dX2_init_7 : decode cX2_init 7 = .ok (.newarray .int, 2) := by decide +kernel
theorem dX2_init_9 : decode cX2_init 9 = .ok (.putfield 7, 3) := by decide +kernel
theorem dX2_init_12 : decode cX2_init 12 = .ok (.aload_n 0, 1) := by decide +kernel
theorem dX2_init_13 : decode cX2_init 13 = .ok (.sipush 240, 3) := by decide +kernel
theorem dX2_init_16 : decode cX2_init 16 = .ok (.newarray .int, 2) := by decide +kernel
theorem dX2_init_18 : decode cX2_init 18 = .ok (.putfield 13, 3) := by decide +kernel
theorem dX2_init_21 : decode cX2_init 21 = .ok (.aload_n 0, 1) := by decide +kernel
theorem dX2_init_22 : decode cX2_init 22 = .ok (.iconst 4, 1) := by decide +kernel
theorem dX2_init_23 : decode cX2_init 23 = .ok (.newarray .int, 2) := by decide +kernel
theorem dX2_init_25 : decode cX2_init 25 = .ok (.putfield 16, 3) := by decide +kernel
theorem dX2_init_28 : decode cX2_init 28 = .ok (.aload_n 0, 1) := by decide +kernel
theorem dX2_init_29 : decode cX2_init 29 = .ok (.sipush 240, 3) := by decide +kernel
theorem dX2_init_32 : decode cX2_init 32 = .ok (.newarray .int, 2) := by decide +kernel
theorem dX2_init_34 : decode cX2_init 34 = .ok (.putfield 19, 3) := by decide +kernel
theorem dX2_init_37 : decode cX2_init 37 = .ok (.aload_n 0, 1) := by decide +kernel
theorem dX2_init_38 : decode cX2_init 38 = .ok (.bipush 7, 2) := by decide +kernel
theorem dX2_init_40 : decode cX2_init 40 = .ok (.newarray .int, 2) := by decide +kernel
theorem dX2_init_42 : decode cX2_init 42 = .ok (.putfield 22, 3) := by decide +kernel
theorem dX2_init_45 : decode cX2_init 45 = .ok (.aload_n 0, 1) := by decide +kernel
theorem dX2_init_46 : decode cX2_init 46 = .ok (.bipush 7, 2) := by decide +kernel
theorem dX2_init_48 : decode cX2_init 48 = .ok (.newarray .int, 2) := by decide +kernel
theorem dX2_init_50 : decode cX2_init 50 = .ok (.putfield 25, 3) := by decide +kernel
theorem dX2_init_53 : decode cX2_init 53 = .ok (.aload_n 0, 1) := by decide +kernel
theorem dX2_init_54 : decode cX2_init 54 = .ok (.bipush 7, 2) := by decide +kernel
theorem dX2_init_56 : decode cX2_init 56 = .ok (.newarray .int, 2) := by decide +kernel
theorem dX2_init_58 : decode cX2_init 58 = .ok (.putfield 28, 3) := by decide +kernel
theorem dX2_init_61 : decode cX2_init 61 = .ok (.aload_n 0, 1) := by decide +kernel
theorem dX2_init_62 : decode cX2_init 62 = .ok (.bipush 15, 2) := by decide +kernel
theorem dX2_init_64 : decode cX2_init 64 = .ok (.newarray .int, 2) := by decide +kernel
theorem dX2_init_66 : decode cX2_init 66 = .ok (.putfield 31, 3) := by decide +kernel
theorem dX2_init_69 : decode cX2_init 69 = .ok (.aload_n 0, 1) := by decide +kernel
theorem dX2_init_70 : decode cX2_init 70 = .ok (.bipush 15, 2) := by decide +kernel
theorem dX2_init_72 : decode cX2_init 72 = .ok (.newarray .int, 2) := by decide +kernel
theorem dX2_init_74 : decode cX2_init 74 = .ok (.putfield 34, 3) := by decide +kernel
theorem dX2_init_77 : decode cX2_init 77 = .ok (.aload_n 0, 1) := by decide +kernel
theorem dX2_init_78 : decode cX2_init 78 = .ok (.sipush 600, 3) := by decide +kernel
theorem dX2_init_81 : decode cX2_init 81 = .ok (.newarray .int, 2) := by decide +kernel
theorem dX2_init_83 : decode cX2_init 83 = .ok (.putfield 37, 3) := by decide +kernel
theorem dX2_init_86 : decode cX2_init 86 = .ok (.aload_n 0, 1) := by decide +kernel
theorem dX2_init_87 : decode cX2_init 87 = .ok (.sipush 1848, 3) := by decide +kernel
theorem dX2_init_90 : decode cX2_init 90 = .ok (.newarray .int, 2) := by decide +kernel
theorem dX2_init_92 : decode cX2_init 92 = .ok (.putfield 40, 3) := by decide +kernel
theorem dX2_init_95 : decode cX2_init 95 = .ok (.aload_n 0, 1) := by decide +kernel
theorem dX2_init_96 : decode cX2_init 96 = .ok (.iconst 3, 1) := by decide +kernel
theorem dX2_init_97 : decode cX2_init 97 = .ok (.newarray .boolean, 2) := by decide +kernel
theorem dX2_init_99 : decode cX2_init 99 = .ok (.putfield 43, 3) := by decide +kernel
theorem dX2_init_102 : decode cX2_init 102 = .ok (.aload_n 0, 1) := by decide +kernel
theorem dX2_init_103 : decode cX2_init 103 = .ok (.lconst 1, 1) := by decide +kernel
theorem dX2_init_104 : decode cX2_init 104 = .ok (.putfield 47, 3) := by decide +kernel
theorem dX2_init_107 : decode cX2_init 107 = .ok (.aload_n 0, 1) := by decide +kernel
theorem dX2_init_108 : decode cX2_init 108 = .ok (.bipush 6, 2) := by decide +kernel
theorem dX2_init_110 : decode cX2_init 110 = .ok (.newarray .int, 2) := by decide +kernel
theorem dX2_init_112 : decode cX2_init 112 = .ok (.putfield 51, 3) := by decide +kernel
theorem dX2_init_115 : decode cX2_init 115 = .ok (.aload_n 0, 1) := by decide +kernel
theorem dX2_init_116 : decode cX2_init 116 = .ok (.bipush 7, 2) := by decide +kernel
theorem dX2_init_118 : decode cX2_init 118 = .ok (.newarray .int, 2) := by decide +kernel
theorem dX2_init_120 : decode cX2_init 120 = .ok (.putfield 54, 3) := by decide +kernel
theorem dX2_init_123 : decode cX2_init 123 = .ok (.aload_n 0, 1) := by decide +kernel
theorem dX2_init_124 : decode cX2_init 124 = .ok (.bipush 7, 2) := by decide +kernel
theorem dX2_init_126 : decode cX2_init 126 = .ok (.newarray .int, 2) := by decide +kernel
theorem dX2_init_128 : decode cX2_init 128 = .ok (.putfield 57, 3) := by decide +kernel
theorem dX2_init_131 : decode cX2_init 131 = .ok (.aload_n 0, 1) := by decide +kernel
theorem dX2_init_132 : decode cX2_init 132 = .ok (.bipush 7, 2) := by decide +kernel
theorem dX2_init_134 : decode cX2_init 134 = .ok (.newarray .int, 2) := by decide +kernel
theorem dX2_init_136 : decode cX2_init 136 = .ok (.putfield 60, 3) := by decide +kernel
theorem dX2_init_139 : decode cX2_init 139 = .ok (.aload_n 0, 1) := by decide +kernel
theorem dX2_init_140 : decode cX2_init 140 = .ok (.bipush 7, 2) := by decide +kernel
theorem dX2_init_142 : decode cX2_init 142 = .ok (.newarray .int, 2) := by decide +kernel
theorem dX2_init_144 : decode cX2_init 144 = .ok (.putfield 63, 3) := by decide +kernel
theorem dX2_init_147 : decode cX2_init 147 = .ok (.aload_n 0, 1) := by decide +kernel
theorem dX2_init_148 : decode cX2_init 148 = .ok (.bipush 6, 2) := by decide +kernel
theorem dX2_init_150 : decode cX2_init 150 = .ok (.newarray .int, 2) := by decide +kernel
theorem dX2_init_152 : decode cX2_init 152 = .ok (.putfield 66, 3) := by decide +kernel
theorem dX2_init_155 : decode cX2_init 155 = .ok (.aload_n 0, 1) := by decide +kernel
theorem dX2_init_156 : decode cX2_init 156 = .ok (.sipush 512, 3) := by decide +kernel
theorem dX2_init_159 : decode cX2_init 159 = .ok (.newarray .int, 2) := by decide +kernel
theorem dX2_init_161 : decode cX2_init 161 = .ok (.putfield 69, 3) := by decide +kernel
theorem dX2_init_164 : decode cX2_init 164 = .ok (.iconst 0, 1) := by decide +kernel
theorem dX2_init_165 : decode cX2_init 165 = .ok (.istore_n 1, 1) := by decide +kernel
theorem dX2_init_166 : decode cX2_init 166 = .ok (.iload_n 1, 1) := by decide +kernel
theorem dX2_init_167 : decode cX2_init 167 = .ok (.bipush 6, 2) := by decide +kernel
theorem dX2_init_169 : decode cX2_init 169 = .ok (.if_icmp .ge 16, 3) := by decide +kernel
theorem dX2_init_172 : decode cX2_init 172 = .ok (.aload_n 0, 1) := by decide +kernel
theorem dX2_init_173 : decode cX2_init 173 = .ok (.getfield 7, 3) := by decide +kernel
theorem dX2_init_176 : decode cX2_init 176 = .ok (.iload_n 1, 1) := by decide +kernel
theorem dX2_init_177 : decode cX2_init 177 = .ok (.iconst (-1), 1) := by decide +kernel
theorem dX2_init_178 : decode cX2_init 178 = .ok (.iastore, 1) := by decide +kernel
theorem dX2_init_179 : decode cX2_init 179 = .ok (.iinc 1 1, 3) := by decide +kernel
theorem dX2_init_182 : decode cX2_init 182 = .ok (.goto (-16), 3) := by decide +kernel
theorem dX2_init_185 : decode cX2_init 185 = .ok (.iconst 0, 1) := by decide +kernel
theorem dX2_init_186 : decode cX2_init 186 = .ok (.istore_n 1, 1) := by decide +kernel
theorem dX2_init_187 : decode cX2_init 187 = .ok (.iload_n 1, 1) := by decide +kernel
theorem dX2_init_188 : decode cX2_init 188 = .ok (.iconst 4, 1) := by decide +kernel
theorem dX2_init_189 : decode cX2_init 189 = .ok (.if_icmp .ge 16, 3) := by decide +kernel
theorem dX2_init_192 : decode cX2_init 192 = .ok (.aload_n 0, 1) := by decide +kernel
theorem dX2_init_193 : decode cX2_init 193 = .ok (.getfield 16, 3) := by decide +kernel
theorem dX2_init_196 : decode cX2_init 196 = .ok (.iload_n 1, 1) := by decide +kernel
theorem dX2_init_197 : decode cX2_init 197 = .ok (.iconst (-1), 1) := by decide +kernel
theorem dX2_init_198 : decode cX2_init 198 = .ok (.iastore, 1) := by decide +kernel
theorem dX2_init_199 : decode cX2_init 199 = .ok (.iinc 1 1, 3) := by decide +kernel
theorem dX2_init_202 : decode cX2_init 202 = .ok (.goto (-15), 3) := by decide +kernel
theorem dX2_init_205 : decode cX2_init 205 = .ok (.return_, 1) := by decide +kernel
theorem dX2_in_0 : decode cX2_in 0 = .ok (.iload_n 0, 1) := by decide +kernel
theorem dX2_in_1 : decode cX2_in 1 = .ok (.iload_n 1, 1) := by decide +kernel
theorem dX2_in_2 : decode cX2_in 2 = .ok (.if_icmp .lt 12, 3) := by decide +kernel
theorem dX2_in_5 : decode cX2_in 5 = .ok (.iload_n 0, 1) := by decide +kernel
theorem dX2_in_6 : decode cX2_in 6 = .ok (.iload_n 2, 1) := by decide +kernel
theorem dX2_in_7 : decode cX2_in 7 = .ok (.if_icmp .gt 7, 3) := by decide +kernel
theorem dX2_in_10 : decode cX2_in 10 = .ok (.iconst 1, 1) := by decide +kernel
theorem dX2_in_11 : decode cX2_in 11 = .ok (.goto 4, 3) := by decide +kernel
theorem dX2_in_14 : decode cX2_in 14 = .ok (.iconst 0, 1) := by decide +kernel
theorem dX2_in_15 : decode cX2_in 15 = .ok (.ireturn, 1) := by decide +kernel
theorem dX2_bits_0 : decode cX2_bits 0 = .ok (.iconst 0, 1) := by decide +kernel
theorem dX2_bits_1 : decode cX2_bits 1 = .ok (.istore_n 1, 1) := by decide +kernel
theorem dX2_bits_2 : decode cX2_bits 2 = .ok (.iload_n 0, 1) := by decide +kernel
theorem dX2_bits_3 : decode cX2_bits 3 = .ok (.istore_n 2, 1) := by decide +kernel
theorem dX2_bits_4 : decode cX2_bits 4 = .ok (.iload_n 2, 1) := by decide +kernel
theorem dX2_bits_5 : decode cX2_bits 5 = .ok (.ifCond .eq 15, 3) := by decide +kernel
theorem dX2_bits_8 : decode cX2_bits 8 = .ok (.iinc 1 1, 3) := by decide +kernel
theorem dX2_bits_11 : decode cX2_bits 11 = .ok (.iload_n 2, 1) := by decide +kernel
theorem dX2_bits_12 : decode cX2_bits 12 = .ok (.iload_n 2, 1) := by decide +kernel
theorem dX2_bits_13 : decode cX2_bits 13 = .ok (.iconst 1, 1) := by decide +kernel
theorem dX2_bits_14 : decode cX2_bits 14 = .ok (.isub, 1) := by decide +kernel
theorem dX2_bits_15 : decode cX2_bits 15 = .ok (.iand, 1) := by decide +kernel
theorem dX2_bits_16 : decode cX2_bits 16 = .ok (.istore_n 2, 1) := by decide +kernel
theorem dX2_bits_17 : decode cX2_bits 17 = .ok (.goto (-13), 3) := by decide +kernel
theorem dX2_bits_20 : decode cX2_bits 20 = .ok (.iload_n 1, 1) := by decide +kernel
theorem dX2_bits_21 : decode cX2_bits 21 = .ok (.ireturn, 1) := by decide +kernel
theorem dX2_bring_0 : decode cX2_bring 0 = .ok (.iconst 0, 1) := by decide +kernel
theorem dX2_bring_1 : decode cX2_bring 1 = .ok (.istore 5, 2) := by decide +kernel
theorem dX2_bring_3 : decode cX2_bring 3 = .ok (.iload 5, 2) := by decide +kernel
theorem dX2_bring_5 : decode cX2_bring 5 = .ok (.iload 4, 2) := by decide +kernel
theorem dX2_bring_7 : decode cX2_bring 7 = .ok (.if_icmp .ge 21, 3) := by decide +kernel
theorem dX2_bring_10 : decode cX2_bring 10 = .ok (.aload_n 2, 1) := by decide +kernel
theorem dX2_bring_11 : decode cX2_bring 11 = .ok (.iload_n 3, 1) := by decide +kernel
theorem dX2_bring_12 : decode cX2_bring 12 = .ok (.iload 5, 2) := by decide +kernel
theorem dX2_bring_14 : decode cX2_bring 14 = .ok (.iadd, 1) := by decide +kernel
theorem dX2_bring_15 : decode cX2_bring 15 = .ok (.aload_n 0, 1) := by decide +kernel
theorem dX2_bring_16 : decode cX2_bring 16 = .ok (.iload_n 1, 1) := by decide +kernel
theorem dX2_bring_17 : decode cX2_bring 17 = .ok (.iload 5, 2) := by decide +kernel
theorem dX2_bring_19 : decode cX2_bring 19 = .ok (.iadd, 1) := by decide +kernel
theorem dX2_bring_20 : decode cX2_bring 20 = .ok (.iaload, 1) := by decide +kernel
theorem dX2_bring_21 : decode cX2_bring 21 = .ok (.iastore, 1) := by decide +kernel
theorem dX2_bring_22 : decode cX2_bring 22 = .ok (.iinc 5 1, 3) := by decide +kernel
theorem dX2_bring_25 : decode cX2_bring 25 = .ok (.goto (-22), 3) := by decide +kernel
theorem dX2_bring_28 : decode cX2_bring 28 = .ok (.return_, 1) := by decide +kernel
theorem dX2_found_0 : decode cX2_found 0 = .ok (.aload_n 0, 1) := by decide +kernel
theorem dX2_found_1 : decode cX2_found 1 = .ok (.iload_n 1, 1) := by decide +kernel
theorem dX2_found_2 : decode cX2_found 2 = .ok (.putfield 72, 3) := by decide +kernel
theorem dX2_found_5 : decode cX2_found 5 = .ok (.aload_n 0, 1) := by decide +kernel
theorem dX2_found_6 : decode cX2_found 6 = .ok (.getfield 51, 3) := by decide +kernel
theorem dX2_found_9 : decode cX2_found 9 = .ok (.iload_n 1, 1) := by decide +kernel
theorem dX2_found_10 : decode cX2_found 10 = .ok (.dup2, 1) := by decide +kernel
theorem dX2_found_11 : decode cX2_found 11 = .ok (.iaload, 1) := by decide +kernel
theorem dX2_found_12 : decode cX2_found 12 = .ok (.iconst 1, 1) := by decide +kernel
theorem dX2_found_13 : decode cX2_found 13 = .ok (.iadd, 1) := by decide +kernel
theorem dX2_found_14 : decode cX2_found 14 = .ok (.iastore, 1) := by decide +kernel
theorem dX2_found_15 : decode cX2_found 15 = .ok (.bipush (-3), 2) := by decide +kernel
theorem dX2_found_17 : decode cX2_found 17 = .ok (.ireturn, 1) := by decide +kernel
theorem dX2_tells_0 : decode cX2_tells 0 = .ok (.aload_n 0, 1) := by decide +kernel
theorem dX2_tells_1 : decode cX2_tells 1 = .ok (.iload_n 1, 1) := by decide +kernel
theorem dX2_tells_2 : decode cX2_tells 2 = .ok (.putfield 76, 3) := by decide +kernel
theorem dX2_tells_5 : decode cX2_tells 5 = .ok (.iload_n 2, 1) := by decide +kernel
theorem dX2_tells_6 : decode cX2_tells 6 = .ok (.ireturn, 1) := by decide +kernel
theorem dX2_isTube_0 : decode cX2_isTube 0 = .ok (.iload_n 1, 1) := by decide +kernel
theorem dX2_isTube_1 : decode cX2_isTube 1 = .ok (.iconst 0, 1) := by decide +kernel
theorem dX2_isTube_2 : decode cX2_isTube 2 = .ok (.aload_n 0, 1) := by decide +kernel
theorem dX2_isTube_3 : decode cX2_isTube 3 = .ok (.getfield 79, 3) := by decide +kernel
theorem dX2_isTube_6 : decode cX2_isTube 6 = .ok (.iconst 1, 1) := by decide +kernel
theorem dX2_isTube_7 : decode cX2_isTube 7 = .ok (.isub, 1) := by decide +kernel
theorem dX2_isTube_8 : decode cX2_isTube 8 = .ok (.invokestatic 82, 3) := by decide +kernel
theorem dX2_isTube_11 : decode cX2_isTube 11 = .ok (.ireturn, 1) := by decide +kernel
theorem dX2_isRow_0 : decode cX2_isRow 0 = .ok (.iload_n 0, 1) := by decide +kernel
theorem dX2_isRow_1 : decode cX2_isRow 1 = .ok (.iconst 0, 1) := by decide +kernel
theorem dX2_isRow_2 : decode cX2_isRow 2 = .ok (.iconst 5, 1) := by decide +kernel
theorem dX2_isRow_3 : decode cX2_isRow 3 = .ok (.invokestatic 82, 3) := by decide +kernel
theorem dX2_isRow_6 : decode cX2_isRow 6 = .ok (.ireturn, 1) := by decide +kernel
theorem dX2_isText_0 : decode cX2_isText 0 = .ok (.iload_n 0, 1) := by decide +kernel
theorem dX2_isText_1 : decode cX2_isText 1 = .ok (.iconst 0, 1) := by decide +kernel
theorem dX2_isText_2 : decode cX2_isText 2 = .ok (.iconst 3, 1) := by decide +kernel
theorem dX2_isText_3 : decode cX2_isText 3 = .ok (.invokestatic 82, 3) := by decide +kernel
theorem dX2_isText_6 : decode cX2_isText 6 = .ok (.ireturn, 1) := by decide +kernel
theorem dX2_makesRow_0 : decode cX2_makesRow 0 = .ok (.aload_n 0, 1) := by decide +kernel
theorem dX2_makesRow_1 : decode cX2_makesRow 1 = .ok (.getfield 7, 3) := by decide +kernel
theorem dX2_makesRow_4 : decode cX2_makesRow 4 = .ok (.iload_n 1, 1) := by decide +kernel
theorem dX2_makesRow_5 : decode cX2_makesRow 5 = .ok (.iload_n 2, 1) := by decide +kernel
theorem dX2_makesRow_6 : decode cX2_makesRow 6 = .ok (.iastore, 1) := by decide +kernel
theorem dX2_makesRow_7 : decode cX2_makesRow 7 = .ok (.iconst 0, 1) := by decide +kernel
theorem dX2_makesRow_8 : decode cX2_makesRow 8 = .ok (.istore_n 3, 1) := by decide +kernel
theorem dX2_makesRow_9 : decode cX2_makesRow 9 = .ok (.iload_n 3, 1) := by decide +kernel
theorem dX2_makesRow_10 : decode cX2_makesRow 10 = .ok (.iload_n 2, 1) := by decide +kernel
theorem dX2_makesRow_11 : decode cX2_makesRow 11 = .ok (.if_icmp .ge 21, 3) := by decide +kernel
theorem dX2_makesRow_14 : decode cX2_makesRow 14 = .ok (.aload_n 0, 1) := by decide +kernel
theorem dX2_makesRow_15 : decode cX2_makesRow 15 = .ok (.getfield 13, 3) := by decide +kernel
theorem dX2_makesRow_18 : decode cX2_makesRow 18 = .ok (.bipush 40, 2) := by decide +kernel
theorem dX2_makesRow_20 : decode cX2_makesRow 20 = .ok (.iload_n 1, 1) := by decide +kernel
theorem dX2_makesRow_21 : decode cX2_makesRow 21 = .ok (.imul, 1) := by decide +kernel
theorem dX2_makesRow_22 : decode cX2_makesRow 22 = .ok (.iload_n 3, 1) := by decide +kernel
theorem dX2_makesRow_23 : decode cX2_makesRow 23 = .ok (.iadd, 1) := by decide +kernel
theorem dX2_makesRow_24 : decode cX2_makesRow 24 = .ok (.iconst 0, 1) := by decide +kernel
theorem dX2_makesRow_25 : decode cX2_makesRow 25 = .ok (.iastore, 1) := by decide +kernel
theorem dX2_makesRow_26 : decode cX2_makesRow 26 = .ok (.iinc 3 1, 3) := by decide +kernel
theorem dX2_makesRow_29 : decode cX2_makesRow 29 = .ok (.goto (-20), 3) := by decide +kernel
theorem dX2_makesRow_32 : decode cX2_makesRow 32 = .ok (.return_, 1) := by decide +kernel
theorem dX2_row_0 : decode cX2_row 0 = .ok (.iload_n 1, 1) := by decide +kernel
theorem dX2_row_1 : decode cX2_row 1 = .ok (.invokestatic 86, 3) := by decide +kernel
theorem dX2_row_4 : decode cX2_row 4 = .ok (.ifCond .eq 9, 3) := by decide +kernel
theorem dX2_row_7 : decode cX2_row 7 = .ok (.iload_n 2, 1) := by decide +kernel
theorem dX2_row_8 : decode cX2_row 8 = .ok (.bipush 40, 2) := by decide +kernel
theorem dX2_row_10 : decode cX2_row 10 = .ok (.if_icmp .le 5, 3) := by decide +kernel
theorem dX2_row_13 : decode cX2_row 13 = .ok (.iconst (-1), 1) := by decide +kernel
theorem dX2_row_14 : decode cX2_row 14 = .ok (.ireturn, 1) := by decide +kernel
theorem dX2_row_15 : decode cX2_row 15 = .ok (.iload_n 2, 1) := by decide +kernel
theorem dX2_row_16 : decode cX2_row 16 = .ok (.ifCond .ge 9, 3) := by decide +kernel
theorem dX2_row_19 : decode cX2_row 19 = .ok (.aload_n 0, 1) := by decide +kernel
theorem dX2_row_20 : decode cX2_row 20 = .ok (.iconst 5, 1) := by decide +kernel
theorem dX2_row_21 : decode cX2_row 21 = .ok (.invokevirtual 90, 3) := by decide +kernel
theorem dX2_row_24 : decode cX2_row 24 = .ok (.ireturn, 1) := by decide +kernel
theorem dX2_row_25 : decode cX2_row 25 = .ok (.aload_n 0, 1) := by decide +kernel
theorem dX2_row_26 : decode cX2_row 26 = .ok (.iload_n 1, 1) := by decide +kernel
theorem dX2_row_27 : decode cX2_row 27 = .ok (.iload_n 2, 1) := by decide +kernel
theorem dX2_row_28 : decode cX2_row 28 = .ok (.invokevirtual 94, 3) := by decide +kernel
theorem dX2_row_31 : decode cX2_row 31 = .ok (.iload_n 2, 1) := by decide +kernel
theorem dX2_row_32 : decode cX2_row 32 = .ok (.ireturn, 1) := by decide +kernel
theorem dX2_placeOf_0 : decode cX2_placeOf 0 = .ok (.aload_n 0, 1) := by decide +kernel
theorem dX2_placeOf_1 : decode cX2_placeOf 1 = .ok (.getfield 7, 3) := by decide +kernel
theorem dX2_placeOf_4 : decode cX2_placeOf 4 = .ok (.iload_n 1, 1) := by decide +kernel
theorem dX2_placeOf_5 : decode cX2_placeOf 5 = .ok (.iaload, 1) := by decide +kernel
theorem dX2_placeOf_6 : decode cX2_placeOf 6 = .ok (.ifCond .ge 7, 3) := by decide +kernel
theorem dX2_placeOf_9 : decode cX2_placeOf 9 = .ok (.iconst 1, 1) := by decide +kernel
theorem dX2_placeOf_10 : decode cX2_placeOf 10 = .ok (.goto 24, 3) := by decide +kernel
theorem dX2_placeOf_13 : decode cX2_placeOf 13 = .ok (.iload_n 2, 1) := by decide +kernel
theorem dX2_placeOf_14 : decode cX2_placeOf 14 = .ok (.iconst 0, 1) := by decide +kernel
theorem dX2_placeOf_15 : decode cX2_placeOf 15 = .ok (.aload_n 0, 1) := by decide +kernel
theorem dX2_placeOf_16 : decode cX2_placeOf 16 = .ok (.getfield 7, 3) := by decide +kernel
theorem dX2_placeOf_19 : decode cX2_placeOf 19 = .ok (.iload_n 1, 1) := by decide +kernel
theorem dX2_placeOf_20 : decode cX2_placeOf 20 = .ok (.iaload, 1) := by decide +kernel
theorem dX2_placeOf_21 : decode cX2_placeOf 21 = .ok (.iconst 1, 1) := by decide +kernel
theorem dX2_placeOf_22 : decode cX2_placeOf 22 = .ok (.isub, 1) := by decide +kernel
theorem dX2_placeOf_23 : decode cX2_placeOf 23 = .ok (.invokestatic 82, 3) := by decide +kernel
theorem dX2_placeOf_26 : decode cX2_placeOf 26 = .ok (.ifCond .eq 7, 3) := by decide +kernel
theorem dX2_placeOf_29 : decode cX2_placeOf 29 = .ok (.iconst 0, 1) := by decide +kernel
theorem dX2_placeOf_30 : decode cX2_placeOf 30 = .ok (.goto 4, 3) := by decide +kernel
theorem dX2_placeOf_33 : decode cX2_placeOf 33 = .ok (.iconst 2, 1) := by decide +kernel
theorem dX2_placeOf_34 : decode cX2_placeOf 34 = .ok (.ireturn, 1) := by decide +kernel
theorem dX2_lay_0 : decode cX2_lay 0 = .ok (.iload_n 1, 1) := by decide +kernel
theorem dX2_lay_1 : decode cX2_lay 1 = .ok (.invokestatic 86, 3) := by decide +kernel
theorem dX2_lay_4 : decode cX2_lay 4 = .ok (.ifCond .ne 5, 3) := by decide +kernel
theorem dX2_lay_7 : decode cX2_lay 7 = .ok (.iconst (-1), 1) := by decide +kernel
theorem dX2_lay_8 : decode cX2_lay 8 = .ok (.ireturn, 1) := by decide +kernel
theorem dX2_lay_9 : decode cX2_lay 9 = .ok (.aload_n 0, 1) := by decide +kernel
theorem dX2_lay_10 : decode cX2_lay 10 = .ok (.iload_n 1, 1) := by decide +kernel
theorem dX2_lay_11 : decode cX2_lay 11 = .ok (.iload_n 2, 1) := by decide +kernel
theorem dX2_lay_12 : decode cX2_lay 12 = .ok (.invokevirtual 98, 3) := by decide +kernel
theorem dX2_lay_15 : decode cX2_lay 15 = .ok (.istore 4, 2) := by decide +kernel
theorem dX2_lay_17 : decode cX2_lay 17 = .ok (.iload 4, 2) := by decide +kernel
theorem dX2_lay_19 : decode cX2_lay 19 = .ok (.ifCond .eq 10, 3) := by decide +kernel
theorem dX2_lay_22 : decode cX2_lay 22 = .ok (.aload_n 0, 1) := by decide +kernel
theorem dX2_lay_23 : decode cX2_lay 23 = .ok (.iload 4, 2) := by decide +kernel
theorem dX2_lay_25 : decode cX2_lay 25 = .ok (.invokevirtual 90, 3) := by decide +kernel
theorem dX2_lay_28 : decode cX2_lay 28 = .ok (.ireturn, 1) := by decide +kernel
theorem dX2_lay_29 : decode cX2_lay 29 = .ok (.aload_n 0, 1) := by decide +kernel
theorem dX2_lay_30 : decode cX2_lay 30 = .ok (.getfield 13, 3) := by decide +kernel
theorem dX2_lay_33 : decode cX2_lay 33 = .ok (.bipush 40, 2) := by decide +kernel
theorem dX2_lay_35 : decode cX2_lay 35 = .ok (.iload_n 1, 1) := by decide +kernel
theorem dX2_lay_36 : decode cX2_lay 36 = .ok (.imul, 1) := by decide +kernel
theorem dX2_lay_37 : decode cX2_lay 37 = .ok (.iload_n 2, 1) := by decide +kernel
theorem dX2_lay_38 : decode cX2_lay 38 = .ok (.iadd, 1) := by decide +kernel
theorem dX2_lay_39 : decode cX2_lay 39 = .ok (.iaload, 1) := by decide +kernel
theorem dX2_lay_40 : decode cX2_lay 40 = .ok (.istore 5, 2) := by decide +kernel
theorem dX2_lay_42 : decode cX2_lay 42 = .ok (.aload_n 0, 1) := by decide +kernel
theorem dX2_lay_43 : decode cX2_lay 43 = .ok (.getfield 13, 3) := by decide +kernel
theorem dX2_lay_46 : decode cX2_lay 46 = .ok (.bipush 40, 2) := by decide +kernel
theorem dX2_lay_48 : decode cX2_lay 48 = .ok (.iload_n 1, 1) := by decide +kernel
theorem dX2_lay_49 : decode cX2_lay 49 = .ok (.imul, 1) := by decide +kernel
theorem dX2_lay_50 : decode cX2_lay 50 = .ok (.iload_n 2, 1) := by decide +kernel
theorem dX2_lay_51 : decode cX2_lay 51 = .ok (.iadd, 1) := by decide +kernel
theorem dX2_lay_52 : decode cX2_lay 52 = .ok (.iload_n 3, 1) := by decide +kernel
theorem dX2_lay_53 : decode cX2_lay 53 = .ok (.iastore, 1) := by decide +kernel
theorem dX2_lay_54 : decode cX2_lay 54 = .ok (.aload_n 0, 1) := by decide +kernel
theorem dX2_lay_55 : decode cX2_lay 55 = .ok (.iload 5, 2) := by decide +kernel
theorem dX2_lay_57 : decode cX2_lay 57 = .ok (.iconst 1, 1) := by decide +kernel
theorem dX2_lay_58 : decode cX2_lay 58 = .ok (.invokevirtual 102, 3) := by decide +kernel
theorem dX2_lay_61 : decode cX2_lay 61 = .ok (.ireturn, 1) := by decide +kernel
theorem dX2_at_0 : decode cX2_at 0 = .ok (.iload_n 1, 1) := by decide +kernel
theorem dX2_at_1 : decode cX2_at 1 = .ok (.invokestatic 86, 3) := by decide +kernel
theorem dX2_at_4 : decode cX2_at 4 = .ok (.ifCond .ne 5, 3) := by decide +kernel
theorem dX2_at_7 : decode cX2_at 7 = .ok (.iconst (-1), 1) := by decide +kernel
theorem dX2_at_8 : decode cX2_at 8 = .ok (.ireturn, 1) := by decide +kernel
theorem dX2_at_9 : decode cX2_at 9 = .ok (.aload_n 0, 1) := by decide +kernel
theorem dX2_at_10 : decode cX2_at 10 = .ok (.iload_n 1, 1) := by decide +kernel
theorem dX2_at_11 : decode cX2_at 11 = .ok (.iload_n 2, 1) := by decide +kernel
theorem dX2_at_12 : decode cX2_at 12 = .ok (.invokevirtual 98, 3) := by decide +kernel
theorem dX2_at_15 : decode cX2_at 15 = .ok (.istore_n 3, 1) := by decide +kernel
theorem dX2_at_16 : decode cX2_at 16 = .ok (.iload_n 3, 1) := by decide +kernel
theorem dX2_at_17 : decode cX2_at 17 = .ok (.ifCond .eq 11, 3) := by decide +kernel
theorem dX2_at_20 : decode cX2_at 20 = .ok (.aload_n 0, 1) := by decide +kernel
theorem dX2_at_21 : decode cX2_at 21 = .ok (.iload_n 3, 1) := by decide +kernel
theorem dX2_at_22 : decode cX2_at 22 = .ok (.invokevirtual 90, 3) := by decide +kernel
theorem dX2_at_25 : decode cX2_at 25 = .ok (.goto 19, 3) := by decide +kernel
theorem dX2_at_28 : decode cX2_at 28 = .ok (.aload_n 0, 1) := by decide +kernel
theorem dX2_at_29 : decode cX2_at 29 = .ok (.aload_n 0, 1) := by decide +kernel
theorem dX2_at_30 : decode cX2_at 30 = .ok (.getfield 13, 3) := by decide +kernel
theorem dX2_at_33 : decode cX2_at 33 = .ok (.bipush 40, 2) := by decide +kernel
theorem dX2_at_35 : decode cX2_at 35 = .ok (.iload_n 1, 1) := by decide +kernel
theorem dX2_at_36 : decode cX2_at 36 = .ok (.imul, 1) := by decide +kernel
theorem dX2_at_37 : decode cX2_at 37 = .ok (.iload_n 2, 1) := by decide +kernel
theorem dX2_at_38 : decode cX2_at 38 = .ok (.iadd, 1) := by decide +kernel
theorem dX2_at_39 : decode cX2_at 39 = .ok (.iaload, 1) := by decide +kernel
theorem dX2_at_40 : decode cX2_at 40 = .ok (.iconst 1, 1) := by decide +kernel
theorem dX2_at_41 : decode cX2_at 41 = .ok (.invokevirtual 102, 3) := by decide +kernel
theorem dX2_at_44 : decode cX2_at 44 = .ok (.ireturn, 1) := by decide +kernel
theorem dX2_tear_0 : decode cX2_tear 0 = .ok (.iload_n 1, 1) := by decide +kernel
theorem dX2_tear_1 : decode cX2_tear 1 = .ok (.invokestatic 86, 3) := by decide +kernel
theorem dX2_tear_4 : decode cX2_tear 4 = .ok (.ifCond .ne 5, 3) := by decide +kernel
theorem dX2_tear_7 : decode cX2_tear 7 = .ok (.iconst (-1), 1) := by decide +kernel
theorem dX2_tear_8 : decode cX2_tear 8 = .ok (.ireturn, 1) := by decide +kernel
theorem dX2_tear_9 : decode cX2_tear 9 = .ok (.aload_n 0, 1) := by decide +kernel
theorem dX2_tear_10 : decode cX2_tear 10 = .ok (.getfield 7, 3) := by decide +kernel
theorem dX2_tear_13 : decode cX2_tear 13 = .ok (.iload_n 1, 1) := by decide +kernel
theorem dX2_tear_14 : decode cX2_tear 14 = .ok (.iaload, 1) := by decide +kernel
theorem dX2_tear_15 : decode cX2_tear 15 = .ok (.ifCond .ge 9, 3) := by decide +kernel
theorem dX2_tear_18 : decode cX2_tear 18 = .ok (.aload_n 0, 1) := by decide +kernel
theorem dX2_tear_19 : decode cX2_tear 19 = .ok (.iconst 1, 1) := by decide +kernel
theorem dX2_tear_20 : decode cX2_tear 20 = .ok (.invokevirtual 90, 3) := by decide +kernel
theorem dX2_tear_23 : decode cX2_tear 23 = .ok (.ireturn, 1) := by decide +kernel
theorem dX2_tear_24 : decode cX2_tear 24 = .ok (.aload_n 0, 1) := by decide +kernel
theorem dX2_tear_25 : decode cX2_tear 25 = .ok (.getfield 7, 3) := by decide +kernel
theorem dX2_tear_28 : decode cX2_tear 28 = .ok (.iload_n 1, 1) := by decide +kernel
theorem dX2_tear_29 : decode cX2_tear 29 = .ok (.iconst (-1), 1) := by decide +kernel
theorem dX2_tear_30 : decode cX2_tear 30 = .ok (.iastore, 1) := by decide +kernel
theorem dX2_tear_31 : decode cX2_tear 31 = .ok (.iconst 1, 1) := by decide +kernel
theorem dX2_tear_32 : decode cX2_tear 32 = .ok (.ireturn, 1) := by decide +kernel
theorem dX2_copy_0 : decode cX2_copy 0 = .ok (.iload_n 1, 1) := by decide +kernel
theorem dX2_copy_1 : decode cX2_copy 1 = .ok (.invokestatic 86, 3) := by decide +kernel
theorem dX2_copy_4 : decode cX2_copy 4 = .ok (.ifCond .eq 10, 3) := by decide +kernel
theorem dX2_copy_7 : decode cX2_copy 7 = .ok (.iload_n 3, 1) := by decide +kernel
theorem dX2_copy_8 : decode cX2_copy 8 = .ok (.invokestatic 86, 3) := by decide +kernel
theorem dX2_copy_11 : decode cX2_copy 11 = .ok (.ifCond .ne 5, 3) := by decide +kernel
theorem dX2_copy_14 : decode cX2_copy 14 = .ok (.iconst (-1), 1) := by decide +kernel
theorem dX2_copy_15 : decode cX2_copy 15 = .ok (.ireturn, 1) := by decide +kernel
theorem dX2_copy_16 : decode cX2_copy 16 = .ok (.iload 5, 2) := by decide +kernel
theorem dX2_copy_18 : decode cX2_copy 18 = .ok (.ifCond .ge 9, 3) := by decide +kernel
theorem dX2_copy_21 : decode cX2_copy 21 = .ok (.aload_n 0, 1) := by decide +kernel
theorem dX2_copy_22 : decode cX2_copy 22 = .ok (.iconst 5, 1) := by decide +kernel
theorem dX2_copy_23 : decode cX2_copy 23 = .ok (.invokevirtual 90, 3) := by decide +kernel
theorem dX2_copy_26 : decode cX2_copy 26 = .ok (.ireturn, 1) := by decide +kernel
theorem dX2_copy_27 : decode cX2_copy 27 = .ok (.aload_n 0, 1) := by decide +kernel
theorem dX2_copy_28 : decode cX2_copy 28 = .ok (.getfield 7, 3) := by decide +kernel
theorem dX2_copy_31 : decode cX2_copy 31 = .ok (.iload_n 1, 1) := by decide +kernel
theorem dX2_copy_32 : decode cX2_copy 32 = .ok (.iaload, 1) := by decide +kernel
theorem dX2_copy_33 : decode cX2_copy 33 = .ok (.ifCond .lt 12, 3) := by decide +kernel
theorem dX2_copy_36 : decode cX2_copy 36 = .ok (.aload_n 0, 1) := by decide +kernel
theorem dX2_copy_37 : decode cX2_copy 37 = .ok (.getfield 7, 3) := by decide +kernel
theorem dX2_copy_40 : decode cX2_copy 40 = .ok (.iload_n 3, 1) := by decide +kernel
theorem dX2_copy_41 : decode cX2_copy 41 = .ok (.iaload, 1) := by decide +kernel
theorem dX2_copy_42 : decode cX2_copy 42 = .ok (.ifCond .ge 9, 3) := by decide +kernel
theorem dX2_copy_45 : decode cX2_copy 45 = .ok (.aload_n 0, 1) := by decide +kernel
theorem dX2_copy_46 : decode cX2_copy 46 = .ok (.iconst 1, 1) := by decide +kernel
theorem dX2_copy_47 : decode cX2_copy 47 = .ok (.invokevirtual 90, 3) := by decide +kernel
theorem dX2_copy_50 : decode cX2_copy 50 = .ok (.ireturn, 1) := by decide +kernel
theorem dX2_copy_51 : decode cX2_copy 51 = .ok (.iload_n 2, 1) := by decide +kernel
theorem dX2_copy_52 : decode cX2_copy 52 = .ok (.ifCond .lt 42, 3) := by decide +kernel
theorem dX2_copy_55 : decode cX2_copy 55 = .ok (.iload 4, 2) := by decide +kernel
theorem dX2_copy_57 : decode cX2_copy 57 = .ok (.ifCond .lt 37, 3) := by decide +kernel
theorem dX2_copy_60 : decode cX2_copy 60 = .ok (.iload 5, 2) := by decide +kernel
theorem dX2_copy_62 : decode cX2_copy 62 = .ok (.bipush 40, 2) := by decide +kernel
theorem dX2_copy_64 : decode cX2_copy 64 = .ok (.if_icmp .gt 30, 3) := by decide +kernel
theorem dX2_copy_67 : decode cX2_copy 67 = .ok (.iload_n 2, 1) := by decide +kernel
theorem dX2_copy_68 : decode cX2_copy 68 = .ok (.aload_n 0, 1) := by decide +kernel
theorem dX2_copy_69 : decode cX2_copy 69 = .ok (.getfield 7, 3) := by decide +kernel
theorem dX2_copy_72 : decode cX2_copy 72 = .ok (.iload_n 1, 1) := by decide +kernel
theorem dX2_copy_73 : decode cX2_copy 73 = .ok (.iaload, 1) := by decide +kernel
theorem dX2_copy_74 : decode cX2_copy 74 = .ok (.iload 5, 2) := by decide +kernel
theorem dX2_copy_76 : decode cX2_copy 76 = .ok (.isub, 1) := by decide +kernel
theorem dX2_copy_77 : decode cX2_copy 77 = .ok (.if_icmp .gt 17, 3) := by decide +kernel
theorem dX2_copy_80 : decode cX2_copy 80 = .ok (.iload 4, 2) := by decide +kernel
theorem dX2_copy_82 : decode cX2_copy 82 = .ok (.aload_n 0, 1) := by decide +kernel
theorem dX2_copy_83 : decode cX2_copy 83 = .ok (.getfield 7, 3) := by decide +kernel
theorem dX2_copy_86 : decode cX2_copy 86 = .ok (.iload_n 3, 1) := by decide +kernel
theorem dX2_copy_87 : decode cX2_copy 87 = .ok (.iaload, 1) := by decide +kernel
theorem dX2_copy_88 : decode cX2_copy 88 = .ok (.iload 5, 2) := by decide +kernel
theorem dX2_copy_90 : decode cX2_copy 90 = .ok (.isub, 1) := by decide +kernel
theorem dX2_copy_91 : decode cX2_copy 91 = .ok (.if_icmp .le 9, 3) := by decide +kernel
theorem dX2_copy_94 : decode cX2_copy 94 = .ok (.aload_n 0, 1) := by decide +kernel
theorem dX2_copy_95 : decode cX2_copy 95 = .ok (.iconst 2, 1) := by decide +kernel
theorem dX2_copy_96 : decode cX2_copy 96 = .ok (.invokevirtual 90, 3) := by decide +kernel
theorem dX2_copy_99 : decode cX2_copy 99 = .ok (.ireturn, 1) := by decide +kernel
theorem dX2_copy_100 : decode cX2_copy 100 = .ok (.iload 4, 2) := by decide +kernel
theorem dX2_copy_102 : decode cX2_copy 102 = .ok (.iload_n 2, 1) := by decide +kernel
theorem dX2_copy_103 : decode cX2_copy 103 = .ok (.if_icmp .le 7, 3) := by decide +kernel
theorem dX2_copy_106 : decode cX2_copy 106 = .ok (.iconst 1, 1) := by decide +kernel
theorem dX2_copy_107 : decode cX2_copy 107 = .ok (.goto 4, 3) := by decide +kernel
theorem dX2_copy_110 : decode cX2_copy 110 = .ok (.iconst 0, 1) := by decide +kernel
theorem dX2_copy_111 : decode cX2_copy 111 = .ok (.istore 6, 2) := by decide +kernel
theorem dX2_copy_113 : decode cX2_copy 113 = .ok (.iconst 0, 1) := by decide +kernel
theorem dX2_copy_114 : decode cX2_copy 114 = .ok (.istore 7, 2) := by decide +kernel
theorem dX2_copy_116 : decode cX2_copy 116 = .ok (.iload 7, 2) := by decide +kernel
theorem dX2_copy_118 : decode cX2_copy 118 = .ok (.iload 5, 2) := by decide +kernel
theorem dX2_copy_120 : decode cX2_copy 120 = .ok (.if_icmp .ge 57, 3) := by decide +kernel
theorem dX2_copy_123 : decode cX2_copy 123 = .ok (.iload 6, 2) := by decide +kernel
theorem dX2_copy_125 : decode cX2_copy 125 = .ok (.ifCond .eq 13, 3) := by decide +kernel
theorem dX2_copy_128 : decode cX2_copy 128 = .ok (.iload 5, 2) := by decide +kernel
theorem dX2_copy_130 : decode cX2_copy 130 = .ok (.iconst 1, 1) := by decide +kernel
theorem dX2_copy_131 : decode cX2_copy 131 = .ok (.isub, 1) := by decide +kernel
theorem dX2_copy_132 : decode cX2_copy 132 = .ok (.iload 7, 2) := by decide +kernel
theorem dX2_copy_134 : decode cX2_copy 134 = .ok (.isub, 1) := by decide +kernel
theorem dX2_copy_135 : decode cX2_copy 135 = .ok (.goto 5, 3) := by decide +kernel
theorem dX2_copy_138 : decode cX2_copy 138 = .ok (.iload 7, 2) := by decide +kernel
theorem dX2_copy_140 : decode cX2_copy 140 = .ok (.istore 8, 2) := by decide +kernel
theorem dX2_copy_142 : decode cX2_copy 142 = .ok (.aload_n 0, 1) := by decide +kernel
theorem dX2_copy_143 : decode cX2_copy 143 = .ok (.getfield 13, 3) := by decide +kernel
theorem dX2_copy_146 : decode cX2_copy 146 = .ok (.bipush 40, 2) := by decide +kernel
theorem dX2_copy_148 : decode cX2_copy 148 = .ok (.iload_n 3, 1) := by decide +kernel
theorem dX2_copy_149 : decode cX2_copy 149 = .ok (.imul, 1) := by decide +kernel
theorem dX2_copy_150 : decode cX2_copy 150 = .ok (.iload 4, 2) := by decide +kernel
theorem dX2_copy_152 : decode cX2_copy 152 = .ok (.iadd, 1) := by decide +kernel
theorem dX2_copy_153 : decode cX2_copy 153 = .ok (.iload 8, 2) := by decide +kernel
theorem dX2_copy_155 : decode cX2_copy 155 = .ok (.iadd, 1) := by decide +kernel
theorem dX2_copy_156 : decode cX2_copy 156 = .ok (.aload_n 0, 1) := by decide +kernel
theorem dX2_copy_157 : decode cX2_copy 157 = .ok (.getfield 13, 3) := by decide +kernel
theorem dX2_copy_160 : decode cX2_copy 160 = .ok (.bipush 40, 2) := by decide +kernel
theorem dX2_copy_162 : decode cX2_copy 162 = .ok (.iload_n 1, 1) := by decide +kernel
theorem dX2_copy_163 : decode cX2_copy 163 = .ok (.imul, 1) := by decide +kernel
theorem dX2_copy_164 : decode cX2_copy 164 = .ok (.iload_n 2, 1) := by decide +kernel
theorem dX2_copy_165 : decode cX2_copy 165 = .ok (.iadd, 1) := by decide +kernel
theorem dX2_copy_166 : decode cX2_copy 166 = .ok (.iload 8, 2) := by decide +kernel
theorem dX2_copy_168 : decode cX2_copy 168 = .ok (.iadd, 1) := by decide +kernel
theorem dX2_copy_169 : decode cX2_copy 169 = .ok (.iaload, 1) := by decide +kernel
theorem dX2_copy_170 : decode cX2_copy 170 = .ok (.iastore, 1) := by decide +kernel
theorem dX2_copy_171 : decode cX2_copy 171 = .ok (.iinc 7 1, 3) := by decide +kernel
theorem dX2_copy_174 : decode cX2_copy 174 = .ok (.goto (-58), 3) := by decide +kernel
theorem dX2_copy_177 : decode cX2_copy 177 = .ok (.iconst 1, 1) := by decide +kernel
theorem dX2_copy_178 : decode cX2_copy 178 = .ok (.ireturn, 1) := by decide +kernel
theorem dX2_mean_0 : decode cX2_mean 0 = .ok (.iload_n 1, 1) := by decide +kernel
theorem dX2_mean_1 : decode cX2_mean 1 = .ok (.invokestatic 86, 3) := by decide +kernel
theorem dX2_mean_4 : decode cX2_mean 4 = .ok (.ifCond .ne 5, 3) := by decide +kernel
theorem dX2_mean_7 : decode cX2_mean 7 = .ok (.iconst (-1), 1) := by decide +kernel
theorem dX2_mean_8 : decode cX2_mean 8 = .ok (.ireturn, 1) := by decide +kernel
theorem dX2_mean_9 : decode cX2_mean 9 = .ok (.aload_n 0, 1) := by decide +kernel
theorem dX2_mean_10 : decode cX2_mean 10 = .ok (.getfield 7, 3) := by decide +kernel
theorem dX2_mean_13 : decode cX2_mean 13 = .ok (.iload_n 1, 1) := by decide +kernel
theorem dX2_mean_14 : decode cX2_mean 14 = .ok (.iaload, 1) := by decide +kernel
theorem dX2_mean_15 : decode cX2_mean 15 = .ok (.ifCond .ge 9, 3) := by decide +kernel
theorem dX2_mean_18 : decode cX2_mean 18 = .ok (.aload_n 0, 1) := by decide +kernel
theorem dX2_mean_19 : decode cX2_mean 19 = .ok (.iconst 1, 1) := by decide +kernel
theorem dX2_mean_20 : decode cX2_mean 20 = .ok (.invokevirtual 90, 3) := by decide +kernel
theorem dX2_mean_23 : decode cX2_mean 23 = .ok (.ireturn, 1) := by decide +kernel
theorem dX2_mean_24 : decode cX2_mean 24 = .ok (.aload_n 0, 1) := by decide +kernel
theorem dX2_mean_25 : decode cX2_mean 25 = .ok (.getfield 7, 3) := by decide +kernel
theorem dX2_mean_28 : decode cX2_mean 28 = .ok (.iload_n 1, 1) := by decide +kernel
theorem dX2_mean_29 : decode cX2_mean 29 = .ok (.iaload, 1) := by decide +kernel
theorem dX2_mean_30 : decode cX2_mean 30 = .ok (.ifCond .ne 9, 3) := by decide +kernel
theorem dX2_mean_33 : decode cX2_mean 33 = .ok (.aload_n 0, 1) := by decide +kernel
theorem dX2_mean_34 : decode cX2_mean 34 = .ok (.iconst 4, 1) := by decide +kernel
theorem dX2_mean_35 : decode cX2_mean 35 = .ok (.invokevirtual 90, 3) := by decide +kernel
theorem dX2_mean_38 : decode cX2_mean 38 = .ok (.ireturn, 1) := by decide +kernel
theorem dX2_mean_39 : decode cX2_mean 39 = .ok (.lconst 0, 1) := by decide +kernel
theorem dX2_mean_40 : decode cX2_mean 40 = .ok (.lstore_n 2, 1) := by decide +kernel
theorem dX2_mean_41 : decode cX2_mean 41 = .ok (.iconst 0, 1) := by decide +kernel
theorem dX2_mean_42 : decode cX2_mean 42 = .ok (.istore 4, 2) := by decide +kernel
theorem dX2_mean_44 : decode cX2_mean 44 = .ok (.iload 4, 2) := by decide +kernel
theorem dX2_mean_46 : decode cX2_mean 46 = .ok (.aload_n 0, 1) := by decide +kernel
theorem dX2_mean_47 : decode cX2_mean 47 = .ok (.getfield 7, 3) := by decide +kernel
theorem dX2_mean_50 : decode cX2_mean 50 = .ok (.iload_n 1, 1) := by decide +kernel
theorem dX2_mean_51 : decode cX2_mean 51 = .ok (.iaload, 1) := by decide +kernel
theorem dX2_mean_52 : decode cX2_mean 52 = .ok (.if_icmp .ge 25, 3) := by decide +kernel
theorem dX2_mean_55 : decode cX2_mean 55 = .ok (.lload_n 2, 1) := by decide +kernel
theorem dX2_mean_56 : decode cX2_mean 56 = .ok (.aload_n 0, 1) := by decide +kernel
theorem dX2_mean_57 : decode cX2_mean 57 = .ok (.getfield 13, 3) := by decide +kernel
theorem dX2_mean_60 : decode cX2_mean 60 = .ok (.bipush 40, 2) := by decide +kernel
theorem dX2_mean_62 : decode cX2_mean 62 = .ok (.iload_n 1, 1) := by decide +kernel
theorem dX2_mean_63 : decode cX2_mean 63 = .ok (.imul, 1) := by decide +kernel
theorem dX2_mean_64 : decode cX2_mean 64 = .ok (.iload 4, 2) := by decide +kernel
theorem dX2_mean_66 : decode cX2_mean 66 = .ok (.iadd, 1) := by decide +kernel
theorem dX2_mean_67 : decode cX2_mean 67 = .ok (.iaload, 1) := by decide +kernel
theorem dX2_mean_68 : decode cX2_mean 68 = .ok (.i2l, 1) := by decide +kernel
theorem dX2_mean_69 : decode cX2_mean 69 = .ok (.ladd, 1) := by decide +kernel
theorem dX2_mean_70 : decode cX2_mean 70 = .ok (.lstore_n 2, 1) := by decide +kernel
theorem dX2_mean_71 : decode cX2_mean 71 = .ok (.iinc 4 1, 3) := by decide +kernel
theorem dX2_mean_74 : decode cX2_mean 74 = .ok (.goto (-30), 3) := by decide +kernel
theorem dX2_mean_77 : decode cX2_mean 77 = .ok (.aload_n 0, 1) := by decide +kernel
theorem dX2_mean_78 : decode cX2_mean 78 = .ok (.lload_n 2, 1) := by decide +kernel
theorem dX2_mean_79 : decode cX2_mean 79 = .ok (.aload_n 0, 1) := by decide +kernel
theorem dX2_mean_80 : decode cX2_mean 80 = .ok (.getfield 7, 3) := by decide +kernel
theorem dX2_mean_83 : decode cX2_mean 83 = .ok (.iload_n 1, 1) := by decide +kernel
theorem dX2_mean_84 : decode cX2_mean 84 = .ok (.iaload, 1) := by decide +kernel
theorem dX2_mean_85 : decode cX2_mean 85 = .ok (.i2l, 1) := by decide +kernel
theorem dX2_mean_86 : decode cX2_mean 86 = .ok (.ldiv, 1) := by decide +kernel
theorem dX2_mean_87 : decode cX2_mean 87 = .ok (.l2i, 1) := by decide +kernel
theorem dX2_mean_88 : decode cX2_mean 88 = .ok (.iconst 1, 1) := by decide +kernel
theorem dX2_mean_89 : decode cX2_mean 89 = .ok (.invokevirtual 102, 3) := by decide +kernel
theorem dX2_mean_92 : decode cX2_mean 92 = .ok (.ireturn, 1) := by decide +kernel
theorem dX2_text_0 : decode cX2_text 0 = .ok (.iload_n 1, 1) := by decide +kernel
theorem dX2_text_1 : decode cX2_text 1 = .ok (.invokestatic 105, 3) := by decide +kernel
theorem dX2_text_4 : decode cX2_text 4 = .ok (.ifCond .eq 9, 3) := by decide +kernel
theorem dX2_text_7 : decode cX2_text 7 = .ok (.iload_n 2, 1) := by decide +kernel
theorem dX2_text_8 : decode cX2_text 8 = .ok (.bipush 60, 2) := by decide +kernel
theorem dX2_text_10 : decode cX2_text 10 = .ok (.if_icmp .le 5, 3) := by decide +kernel
theorem dX2_text_13 : decode cX2_text 13 = .ok (.iconst (-1), 1) := by decide +kernel
theorem dX2_text_14 : decode cX2_text 14 = .ok (.ireturn, 1) := by decide +kernel
theorem dX2_text_15 : decode cX2_text 15 = .ok (.iload_n 2, 1) := by decide +kernel
theorem dX2_text_16 : decode cX2_text 16 = .ok (.ifCond .ge 9, 3) := by decide +kernel
theorem dX2_text_19 : decode cX2_text 19 = .ok (.aload_n 0, 1) := by decide +kernel
theorem dX2_text_20 : decode cX2_text 20 = .ok (.iconst 5, 1) := by decide +kernel
theorem dX2_text_21 : decode cX2_text 21 = .ok (.invokevirtual 90, 3) := by decide +kernel
theorem dX2_text_24 : decode cX2_text 24 = .ok (.ireturn, 1) := by decide +kernel
theorem dX2_text_25 : decode cX2_text 25 = .ok (.aload_n 0, 1) := by decide +kernel
theorem dX2_text_26 : decode cX2_text 26 = .ok (.getfield 16, 3) := by decide +kernel
theorem dX2_text_29 : decode cX2_text 29 = .ok (.iload_n 1, 1) := by decide +kernel
theorem dX2_text_30 : decode cX2_text 30 = .ok (.iload_n 2, 1) := by decide +kernel
theorem dX2_text_31 : decode cX2_text 31 = .ok (.iastore, 1) := by decide +kernel
theorem dX2_text_32 : decode cX2_text 32 = .ok (.iconst 0, 1) := by decide +kernel
theorem dX2_text_33 : decode cX2_text 33 = .ok (.istore_n 3, 1) := by decide +kernel
theorem dX2_text_34 : decode cX2_text 34 = .ok (.iload_n 3, 1) := by decide +kernel
theorem dX2_text_35 : decode cX2_text 35 = .ok (.iload_n 2, 1) := by decide +kernel
theorem dX2_text_36 : decode cX2_text 36 = .ok (.if_icmp .ge 22, 3) := by decide +kernel
theorem dX2_text_39 : decode cX2_text 39 = .ok (.aload_n 0, 1) := by decide +kernel
theorem dX2_text_40 : decode cX2_text 40 = .ok (.getfield 19, 3) := by decide +kernel
theorem dX2_text_43 : decode cX2_text 43 = .ok (.bipush 60, 2) := by decide +kernel
theorem dX2_text_45 : decode cX2_text 45 = .ok (.iload_n 1, 1) := by decide +kernel
theorem dX2_text_46 : decode cX2_text 46 = .ok (.imul, 1) := by decide +kernel
theorem dX2_text_47 : decode cX2_text 47 = .ok (.iload_n 3, 1) := by decide +kernel
theorem dX2_text_48 : decode cX2_text 48 = .ok (.iadd, 1) := by decide +kernel
theorem dX2_text_49 : decode cX2_text 49 = .ok (.bipush 32, 2) := by decide +kernel
theorem dX2_text_51 : decode cX2_text 51 = .ok (.iastore, 1) := by decide +kernel
theorem dX2_text_52 : decode cX2_text 52 = .ok (.iinc 3 1, 3) := by decide +kernel
theorem dX2_text_55 : decode cX2_text 55 = .ok (.goto (-21), 3) := by decide +kernel
theorem dX2_text_58 : decode cX2_text 58 = .ok (.iload_n 2, 1) := by decide +kernel
theorem dX2_text_59 : decode cX2_text 59 = .ok (.ireturn, 1) := by decide +kernel
theorem dX2_put_0 : decode cX2_put 0 = .ok (.iload_n 1, 1) := by decide +kernel
theorem dX2_put_1 : decode cX2_put 1 = .ok (.invokestatic 105, 3) := by decide +kernel
theorem dX2_put_4 : decode cX2_put 4 = .ok (.ifCond .ne 5, 3) := by decide +kernel
theorem dX2_put_7 : decode cX2_put 7 = .ok (.iconst (-1), 1) := by decide +kernel
theorem dX2_put_8 : decode cX2_put 8 = .ok (.ireturn, 1) := by decide +kernel
theorem dX2_put_9 : decode cX2_put 9 = .ok (.aload_n 0, 1) := by decide +kernel
theorem dX2_put_10 : decode cX2_put 10 = .ok (.getfield 16, 3) := by decide +kernel
theorem dX2_put_13 : decode cX2_put 13 = .ok (.iload_n 1, 1) := by decide +kernel
theorem dX2_put_14 : decode cX2_put 14 = .ok (.iaload, 1) := by decide +kernel
theorem dX2_put_15 : decode cX2_put 15 = .ok (.ifCond .ge 9, 3) := by decide +kernel
theorem dX2_put_18 : decode cX2_put 18 = .ok (.aload_n 0, 1) := by decide +kernel
theorem dX2_put_19 : decode cX2_put 19 = .ok (.iconst 1, 1) := by decide +kernel
theorem dX2_put_20 : decode cX2_put 20 = .ok (.invokevirtual 90, 3) := by decide +kernel
theorem dX2_put_23 : decode cX2_put 23 = .ok (.ireturn, 1) := by decide +kernel
theorem dX2_put_24 : decode cX2_put 24 = .ok (.iload_n 2, 1) := by decide +kernel
theorem dX2_put_25 : decode cX2_put 25 = .ok (.iconst 0, 1) := by decide +kernel
theorem dX2_put_26 : decode cX2_put 26 = .ok (.aload_n 0, 1) := by decide +kernel
theorem dX2_put_27 : decode cX2_put 27 = .ok (.getfield 16, 3) := by decide +kernel
theorem dX2_put_30 : decode cX2_put 30 = .ok (.iload_n 1, 1) := by decide +kernel
theorem dX2_put_31 : decode cX2_put 31 = .ok (.iaload, 1) := by decide +kernel
theorem dX2_put_32 : decode cX2_put 32 = .ok (.iconst 1, 1) := by decide +kernel
theorem dX2_put_33 : decode cX2_put 33 = .ok (.isub, 1) := by decide +kernel
theorem dX2_put_34 : decode cX2_put 34 = .ok (.invokestatic 82, 3) := by decide +kernel
theorem dX2_put_37 : decode cX2_put 37 = .ok (.ifCond .ne 9, 3) := by decide +kernel
theorem dX2_put_40 : decode cX2_put 40 = .ok (.aload_n 0, 1) := by decide +kernel
theorem dX2_put_41 : decode cX2_put 41 = .ok (.iconst 2, 1) := by decide +kernel
theorem dX2_put_42 : decode cX2_put 42 = .ok (.invokevirtual 90, 3) := by decide +kernel
theorem dX2_put_45 : decode cX2_put 45 = .ok (.ireturn, 1) := by decide +kernel
theorem dX2_put_46 : decode cX2_put 46 = .ok (.aload_n 0, 1) := by decide +kernel
theorem dX2_put_47 : decode cX2_put 47 = .ok (.getfield 19, 3) := by decide +kernel
theorem dX2_put_50 : decode cX2_put 50 = .ok (.bipush 60, 2) := by decide +kernel
theorem dX2_put_52 : decode cX2_put 52 = .ok (.iload_n 1, 1) := by decide +kernel
theorem dX2_put_53 : decode cX2_put 53 = .ok (.imul, 1) := by decide +kernel
theorem dX2_put_54 : decode cX2_put 54 = .ok (.iload_n 2, 1) := by decide +kernel
theorem dX2_put_55 : decode cX2_put 55 = .ok (.iadd, 1) := by decide +kernel
theorem dX2_put_56 : decode cX2_put 56 = .ok (.iaload, 1) := by decide +kernel
theorem dX2_put_57 : decode cX2_put 57 = .ok (.istore 4, 2) := by decide +kernel
theorem dX2_put_59 : decode cX2_put 59 = .ok (.aload_n 0, 1) := by decide +kernel
theorem dX2_put_60 : decode cX2_put 60 = .ok (.getfield 19, 3) := by decide +kernel
theorem dX2_put_63 : decode cX2_put 63 = .ok (.bipush 60, 2) := by decide +kernel
theorem dX2_put_65 : decode cX2_put 65 = .ok (.iload_n 1, 1) := by decide +kernel
theorem dX2_put_66 : decode cX2_put 66 = .ok (.imul, 1) := by decide +kernel
theorem dX2_put_67 : decode cX2_put 67 = .ok (.iload_n 2, 1) := by decide +kernel
theorem dX2_put_68 : decode cX2_put 68 = .ok (.iadd, 1) := by decide +kernel
theorem dX2_put_69 : decode cX2_put 69 = .ok (.iload_n 3, 1) := by decide +kernel
theorem dX2_put_70 : decode cX2_put 70 = .ok (.bipush 24, 2) := by decide +kernel
theorem dX2_put_72 : decode cX2_put 72 = .ok (.ishl, 1) := by decide +kernel
theorem dX2_put_73 : decode cX2_put 73 = .ok (.bipush 24, 2) := by decide +kernel
theorem dX2_put_75 : decode cX2_put 75 = .ok (.ishr, 1) := by decide +kernel
theorem dX2_put_76 : decode cX2_put 76 = .ok (.iastore, 1) := by decide +kernel
theorem dX2_put_77 : decode cX2_put 77 = .ok (.iload 4, 2) := by decide +kernel
theorem dX2_put_79 : decode cX2_put 79 = .ok (.sipush 1000, 3) := by decide +kernel
theorem dX2_put_82 : decode cX2_put 82 = .ok (.iadd, 1) := by decide +kernel
theorem dX2_put_83 : decode cX2_put 83 = .ok (.ireturn, 1) := by decide +kernel
theorem dX2_kindBy_0 : decode cX2_kindBy 0 = .ok (.iload_n 0, 1) := by decide +kernel
theorem dX2_kindBy_1 : decode cX2_kindBy 1 = .ok (.tableswitch 107 100 119 #[105, 99, 103, 107, 107, 107, 107, 107, 107, 107, 107, 107, 107, 107, 107, 101, 95, 107, 107, 97], 95) := by decide +kernel
theorem dX2_kindBy_96 : decode cX2_kindBy 96 = .ok (.iconst 0, 1) := by decide +kernel
theorem dX2_kindBy_97 : decode cX2_kindBy 97 = .ok (.ireturn, 1) := by decide +kernel
theorem dX2_kindBy_98 : decode cX2_kindBy 98 = .ok (.iconst 1, 1) := by decide +kernel
theorem dX2_kindBy_99 : decode cX2_kindBy 99 = .ok (.ireturn, 1) := by decide +kernel
theorem dX2_kindBy_100 : decode cX2_kindBy 100 = .ok (.iconst 2, 1) := by decide +kernel
theorem dX2_kindBy_101 : decode cX2_kindBy 101 = .ok (.ireturn, 1) := by decide +kernel
theorem dX2_kindBy_102 : decode cX2_kindBy 102 = .ok (.iconst 3, 1) := by decide +kernel
theorem dX2_kindBy_103 : decode cX2_kindBy 103 = .ok (.ireturn, 1) := by decide +kernel
theorem dX2_kindBy_104 : decode cX2_kindBy 104 = .ok (.iconst 4, 1) := by decide +kernel
theorem dX2_kindBy_105 : decode cX2_kindBy 105 = .ok (.ireturn, 1) := by decide +kernel
theorem dX2_kindBy_106 : decode cX2_kindBy 106 = .ok (.iconst 5, 1) := by decide +kernel
theorem dX2_kindBy_107 : decode cX2_kindBy 107 = .ok (.ireturn, 1) := by decide +kernel
theorem dX2_kindBy_108 : decode cX2_kindBy 108 = .ok (.iconst (-1), 1) := by decide +kernel
theorem dX2_kindBy_109 : decode cX2_kindBy 109 = .ok (.ireturn, 1) := by decide +kernel
theorem dX2_reading_0 : decode cX2_reading 0 = .ok (.bipush 60, 2) := by decide +kernel
theorem dX2_reading_2 : decode cX2_reading 2 = .ok (.iload_n 1, 1) := by decide +kernel
theorem dX2_reading_3 : decode cX2_reading 3 = .ok (.imul, 1) := by decide +kernel
theorem dX2_reading_4 : decode cX2_reading 4 = .ok (.istore_n 2, 1) := by decide +kernel
theorem dX2_reading_5 : decode cX2_reading 5 = .ok (.aload_n 0, 1) := by decide +kernel
theorem dX2_reading_6 : decode cX2_reading 6 = .ok (.getfield 16, 3) := by decide +kernel
theorem dX2_reading_9 : decode cX2_reading 9 = .ok (.iload_n 1, 1) := by decide +kernel
theorem dX2_reading_10 : decode cX2_reading 10 = .ok (.iaload, 1) := by decide +kernel
theorem dX2_reading_11 : decode cX2_reading 11 = .ok (.istore_n 3, 1) := by decide +kernel
theorem dX2_reading_12 : decode cX2_reading 12 = .ok (.iconst 0, 1) := by decide +kernel
theorem dX2_reading_13 : decode cX2_reading 13 = .ok (.istore 4, 2) := by decide +kernel
theorem dX2_reading_15 : decode cX2_reading 15 = .ok (.aload_n 0, 1) := by decide +kernel
theorem dX2_reading_16 : decode cX2_reading 16 = .ok (.iconst 0, 1) := by decide +kernel
theorem dX2_reading_17 : decode cX2_reading 17 = .ok (.putfield 108, 3) := by decide +kernel
theorem dX2_reading_20 : decode cX2_reading 20 = .ok (.iload 4, 2) := by decide +kernel
theorem dX2_reading_22 : decode cX2_reading 22 = .ok (.iload_n 3, 1) := by decide +kernel
theorem dX2_reading_23 : decode cX2_reading 23 = .ok (.if_icmp .ge 196, 3) := by decide +kernel
theorem dX2_reading_26 : decode cX2_reading 26 = .ok (.aload_n 0, 1) := by decide +kernel
theorem dX2_reading_27 : decode cX2_reading 27 = .ok (.getfield 19, 3) := by decide +kernel
theorem dX2_reading_30 : decode cX2_reading 30 = .ok (.iload_n 2, 1) := by decide +kernel
theorem dX2_reading_31 : decode cX2_reading 31 = .ok (.iload 4, 2) := by decide +kernel
theorem dX2_reading_33 : decode cX2_reading 33 = .ok (.iadd, 1) := by decide +kernel
theorem dX2_reading_34 : decode cX2_reading 34 = .ok (.iaload, 1) := by decide +kernel
theorem dX2_reading_35 : decode cX2_reading 35 = .ok (.bipush 32, 2) := by decide +kernel
theorem dX2_reading_37 : decode cX2_reading 37 = .ok (.if_icmp .ne 9, 3) := by decide +kernel
theorem dX2_reading_40 : decode cX2_reading 40 = .ok (.iinc 4 1, 3) := by decide +kernel
theorem dX2_reading_43 : decode cX2_reading 43 = .ok (.goto (-23), 3) := by decide +kernel
theorem dX2_reading_46 : decode cX2_reading 46 = .ok (.aload_n 0, 1) := by decide +kernel
theorem dX2_reading_47 : decode cX2_reading 47 = .ok (.getfield 108, 3) := by decide +kernel
theorem dX2_reading_50 : decode cX2_reading 50 = .ok (.bipush 7, 2) := by decide +kernel
theorem dX2_reading_52 : decode cX2_reading 52 = .ok (.if_icmp .eq 18, 3) := by decide +kernel
theorem dX2_reading_55 : decode cX2_reading 55 = .ok (.aload_n 0, 1) := by decide +kernel
theorem dX2_reading_56 : decode cX2_reading 56 = .ok (.getfield 19, 3) := by decide +kernel
theorem dX2_reading_59 : decode cX2_reading 59 = .ok (.iload_n 2, 1) := by decide +kernel
theorem dX2_reading_60 : decode cX2_reading 60 = .ok (.iload 4, 2) := by decide +kernel
theorem dX2_reading_62 : decode cX2_reading 62 = .ok (.iadd, 1) := by decide +kernel
theorem dX2_reading_63 : decode cX2_reading 63 = .ok (.iaload, 1) := by decide +kernel
theorem dX2_reading_64 : decode cX2_reading 64 = .ok (.invokestatic 111, 3) := by decide +kernel
theorem dX2_reading_67 : decode cX2_reading 67 = .ok (.ifCond .ge 6, 3) := by decide +kernel
theorem dX2_reading_70 : decode cX2_reading 70 = .ok (.iload 4, 2) := by decide +kernel
theorem dX2_reading_72 : decode cX2_reading 72 = .ok (.ireturn, 1) := by decide +kernel
theorem dX2_reading_73 : decode cX2_reading 73 = .ok (.iconst 1, 1) := by decide +kernel
theorem dX2_reading_74 : decode cX2_reading 74 = .ok (.istore 5, 2) := by decide +kernel
theorem dX2_reading_76 : decode cX2_reading 76 = .ok (.iload 5, 2) := by decide +kernel
theorem dX2_reading_78 : decode cX2_reading 78 = .ok (.iconst 3, 1) := by decide +kernel
theorem dX2_reading_79 : decode cX2_reading 79 = .ok (.if_icmp .ge 57, 3) := by decide +kernel
theorem dX2_reading_82 : decode cX2_reading 82 = .ok (.iload 4, 2) := by decide +kernel
theorem dX2_reading_84 : decode cX2_reading 84 = .ok (.iload 5, 2) := by decide +kernel
theorem dX2_reading_86 : decode cX2_reading 86 = .ok (.iadd, 1) := by decide +kernel
theorem dX2_reading_87 : decode cX2_reading 87 = .ok (.iload_n 3, 1) := by decide +kernel
theorem dX2_reading_88 : decode cX2_reading 88 = .ok (.if_icmp .eq 36, 3) := by decide +kernel
theorem dX2_reading_91 : decode cX2_reading 91 = .ok (.aload_n 0, 1) := by decide +kernel
theorem dX2_reading_92 : decode cX2_reading 92 = .ok (.getfield 19, 3) := by decide +kernel
theorem dX2_reading_95 : decode cX2_reading 95 = .ok (.iload_n 2, 1) := by decide +kernel
theorem dX2_reading_96 : decode cX2_reading 96 = .ok (.iload 4, 2) := by decide +kernel
theorem dX2_reading_98 : decode cX2_reading 98 = .ok (.iadd, 1) := by decide +kernel
theorem dX2_reading_99 : decode cX2_reading 99 = .ok (.iload 5, 2) := by decide +kernel
theorem dX2_reading_101 : decode cX2_reading 101 = .ok (.iadd, 1) := by decide +kernel
theorem dX2_reading_102 : decode cX2_reading 102 = .ok (.iaload, 1) := by decide +kernel
theorem dX2_reading_103 : decode cX2_reading 103 = .ok (.iload 5, 2) := by decide +kernel
theorem dX2_reading_105 : decode cX2_reading 105 = .ok (.iconst 1, 1) := by decide +kernel
theorem dX2_reading_106 : decode cX2_reading 106 = .ok (.if_icmp .ne 8, 3) := by decide +kernel
theorem dX2_reading_109 : decode cX2_reading 109 = .ok (.bipush 50, 2) := by decide +kernel
theorem dX2_reading_111 : decode cX2_reading 111 = .ok (.goto 5, 3) := by decide +kernel
theorem dX2_reading_114 : decode cX2_reading 114 = .ok (.bipush 48, 2) := by decide +kernel
theorem dX2_reading_116 : decode cX2_reading 116 = .ok (.bipush 57, 2) := by decide +kernel
theorem dX2_reading_118 : decode cX2_reading 118 = .ok (.invokestatic 82, 3) := by decide +kernel
theorem dX2_reading_121 : decode cX2_reading 121 = .ok (.ifCond .ne 9, 3) := by decide +kernel
theorem dX2_reading_124 : decode cX2_reading 124 = .ok (.iload 4, 2) := by decide +kernel
theorem dX2_reading_126 : decode cX2_reading 126 = .ok (.iload 5, 2) := by decide +kernel
theorem dX2_reading_128 : decode cX2_reading 128 = .ok (.iadd, 1) := by decide +kernel
theorem dX2_reading_129 : decode cX2_reading 129 = .ok (.ireturn, 1) := by decide +kernel
theorem dX2_reading_130 : decode cX2_reading 130 = .ok (.iinc 5 1, 3) := by decide +kernel
theorem dX2_reading_133 : decode cX2_reading 133 = .ok (.goto (-57), 3) := by decide +kernel
theorem dX2_reading_136 : decode cX2_reading 136 = .ok (.aload_n 0, 1) := by decide +kernel
theorem dX2_reading_137 : decode cX2_reading 137 = .ok (.getfield 54, 3) := by decide +kernel
theorem dX2_reading_140 : decode cX2_reading 140 = .ok (.aload_n 0, 1) := by decide +kernel
theorem dX2_reading_141 : decode cX2_reading 141 = .ok (.getfield 108, 3) := by decide +kernel
theorem dX2_reading_144 : decode cX2_reading 144 = .ok (.aload_n 0, 1) := by decide +kernel
theorem dX2_reading_145 : decode cX2_reading 145 = .ok (.getfield 19, 3) := by decide +kernel
theorem dX2_reading_148 : decode cX2_reading 148 = .ok (.iload_n 2, 1) := by decide +kernel
theorem dX2_reading_149 : decode cX2_reading 149 = .ok (.iload 4, 2) := by decide +kernel
theorem dX2_reading_151 : decode cX2_reading 151 = .ok (.iadd, 1) := by decide +kernel
theorem dX2_reading_152 : decode cX2_reading 152 = .ok (.iaload, 1) := by decide +kernel
theorem dX2_reading_153 : decode cX2_reading 153 = .ok (.invokestatic 111, 3) := by decide +kernel
theorem dX2_reading_156 : decode cX2_reading 156 = .ok (.iastore, 1) := by decide +kernel
theorem dX2_reading_157 : decode cX2_reading 157 = .ok (.aload_n 0, 1) := by decide +kernel
theorem dX2_reading_158 : decode cX2_reading 158 = .ok (.getfield 57, 3) := by decide +kernel
theorem dX2_reading_161 : decode cX2_reading 161 = .ok (.aload_n 0, 1) := by decide +kernel
theorem dX2_reading_162 : decode cX2_reading 162 = .ok (.getfield 108, 3) := by decide +kernel
theorem dX2_reading_165 : decode cX2_reading 165 = .ok (.aload_n 0, 1) := by decide +kernel
theorem dX2_reading_166 : decode cX2_reading 166 = .ok (.getfield 19, 3) := by decide +kernel
theorem dX2_reading_169 : decode cX2_reading 169 = .ok (.iload_n 2, 1) := by decide +kernel
theorem dX2_reading_170 : decode cX2_reading 170 = .ok (.iload 4, 2) := by decide +kernel
theorem dX2_reading_172 : decode cX2_reading 172 = .ok (.iadd, 1) := by decide +kernel
theorem dX2_reading_173 : decode cX2_reading 173 = .ok (.iconst 1, 1) := by decide +kernel
theorem dX2_reading_174 : decode cX2_reading 174 = .ok (.iadd, 1) := by decide +kernel
theorem dX2_reading_175 : decode cX2_reading 175 = .ok (.iaload, 1) := by decide +kernel
theorem dX2_reading_176 : decode cX2_reading 176 = .ok (.bipush 48, 2) := by decide +kernel
theorem dX2_reading_178 : decode cX2_reading 178 = .ok (.isub, 1) := by decide +kernel
theorem dX2_reading_179 : decode cX2_reading 179 = .ok (.iastore, 1) := by decide +kernel
theorem dX2_reading_180 : decode cX2_reading 180 = .ok (.aload_n 0, 1) := by decide +kernel
theorem dX2_reading_181 : decode cX2_reading 181 = .ok (.getfield 60, 3) := by decide +kernel
theorem dX2_reading_184 : decode cX2_reading 184 = .ok (.aload_n 0, 1) := by decide +kernel
theorem dX2_reading_185 : decode cX2_reading 185 = .ok (.getfield 108, 3) := by decide +kernel
theorem dX2_reading_188 : decode cX2_reading 188 = .ok (.aload_n 0, 1) := by decide +kernel
theorem dX2_reading_189 : decode cX2_reading 189 = .ok (.getfield 19, 3) := by decide +kernel
theorem dX2_reading_192 : decode cX2_reading 192 = .ok (.iload_n 2, 1) := by decide +kernel
theorem dX2_reading_193 : decode cX2_reading 193 = .ok (.iload 4, 2) := by decide +kernel
theorem dX2_reading_195 : decode cX2_reading 195 = .ok (.iadd, 1) := by decide +kernel
theorem dX2_reading_196 : decode cX2_reading 196 = .ok (.iconst 2, 1) := by decide +kernel
theorem dX2_reading_197 : decode cX2_reading 197 = .ok (.iadd, 1) := by decide +kernel
theorem dX2_reading_198 : decode cX2_reading 198 = .ok (.iaload, 1) := by decide +kernel
theorem dX2_reading_199 : decode cX2_reading 199 = .ok (.bipush 48, 2) := by decide +kernel
theorem dX2_reading_201 : decode cX2_reading 201 = .ok (.isub, 1) := by decide +kernel
theorem dX2_reading_202 : decode cX2_reading 202 = .ok (.iastore, 1) := by decide +kernel
theorem dX2_reading_203 : decode cX2_reading 203 = .ok (.aload_n 0, 1) := by decide +kernel
theorem dX2_reading_204 : decode cX2_reading 204 = .ok (.dup, 1) := by decide +kernel
theorem dX2_reading_205 : decode cX2_reading 205 = .ok (.getfield 108, 3) := by decide +kernel
theorem dX2_reading_208 : decode cX2_reading 208 = .ok (.iconst 1, 1) := by decide +kernel
theorem dX2_reading_209 : decode cX2_reading 209 = .ok (.iadd, 1) := by decide +kernel
theorem dX2_reading_210 : decode cX2_reading 210 = .ok (.putfield 108, 3) := by decide +kernel
theorem dX2_reading_213 : decode cX2_reading 213 = .ok (.iinc 4 3, 3) := by decide +kernel
theorem dX2_reading_216 : decode cX2_reading 216 = .ok (.goto (-196), 3) := by decide +kernel
theorem dX2_reading_219 : decode cX2_reading 219 = .ok (.aload_n 0, 1) := by decide +kernel
theorem dX2_reading_220 : decode cX2_reading 220 = .ok (.getfield 108, 3) := by decide +kernel
theorem dX2_reading_223 : decode cX2_reading 223 = .ok (.iconst 2, 1) := by decide +kernel
theorem dX2_reading_224 : decode cX2_reading 224 = .ok (.if_icmp .ge 7, 3) := by decide +kernel
theorem dX2_reading_227 : decode cX2_reading 227 = .ok (.iload_n 3, 1) := by decide +kernel
theorem dX2_reading_228 : decode cX2_reading 228 = .ok (.goto 5, 3) := by decide +kernel
theorem dX2_reading_231 : decode cX2_reading 231 = .ok (.bipush (-9), 2) := by decide +kernel
theorem dX2_reading_233 : decode cX2_reading 233 = .ok (.ireturn, 1) := by decide +kernel
theorem dX2_fault_0 : decode cX2_fault 0 = .ok (.iload_n 1, 1) := by decide +kernel
theorem dX2_fault_1 : decode cX2_fault 1 = .ok (.invokestatic 105, 3) := by decide +kernel
theorem dX2_fault_4 : decode cX2_fault 4 = .ok (.ifCond .ne 5, 3) := by decide +kernel
theorem dX2_fault_7 : decode cX2_fault 7 = .ok (.iconst (-1), 1) := by decide +kernel
theorem dX2_fault_8 : decode cX2_fault 8 = .ok (.ireturn, 1) := by decide +kernel
theorem dX2_fault_9 : decode cX2_fault 9 = .ok (.aload_n 0, 1) := by decide +kernel
theorem dX2_fault_10 : decode cX2_fault 10 = .ok (.getfield 16, 3) := by decide +kernel
theorem dX2_fault_13 : decode cX2_fault 13 = .ok (.iload_n 1, 1) := by decide +kernel
theorem dX2_fault_14 : decode cX2_fault 14 = .ok (.iaload, 1) := by decide +kernel
theorem dX2_fault_15 : decode cX2_fault 15 = .ok (.ifCond .ge 11, 3) := by decide +kernel
theorem dX2_fault_18 : decode cX2_fault 18 = .ok (.aload_n 0, 1) := by decide +kernel
theorem dX2_fault_19 : decode cX2_fault 19 = .ok (.iconst 1, 1) := by decide +kernel
theorem dX2_fault_20 : decode cX2_fault 20 = .ok (.invokevirtual 90, 3) := by decide +kernel
theorem dX2_fault_23 : decode cX2_fault 23 = .ok (.goto 8, 3) := by decide +kernel
theorem dX2_fault_26 : decode cX2_fault 26 = .ok (.aload_n 0, 1) := by decide +kernel
theorem dX2_fault_27 : decode cX2_fault 27 = .ok (.iload_n 1, 1) := by decide +kernel
theorem dX2_fault_28 : decode cX2_fault 28 = .ok (.invokevirtual 114, 3) := by decide +kernel
theorem dX2_fault_31 : decode cX2_fault 31 = .ok (.ireturn, 1) := by decide +kernel
theorem dX2_store_0 : decode cX2_store 0 = .ok (.iload_n 1, 1) := by decide +kernel
theorem dX2_store_1 : decode cX2_store 1 = .ok (.invokestatic 105, 3) := by decide +kernel
theorem dX2_store_4 : decode cX2_store 4 = .ok (.ifCond .ne 5, 3) := by decide +kernel
theorem dX2_store_7 : decode cX2_store 7 = .ok (.iconst (-1), 1) := by decide +kernel
theorem dX2_store_8 : decode cX2_store 8 = .ok (.ireturn, 1) := by decide +kernel
theorem dX2_store_9 : decode cX2_store 9 = .ok (.aload_n 0, 1) := by decide +kernel
theorem dX2_store_10 : decode cX2_store 10 = .ok (.getfield 16, 3) := by decide +kernel
theorem dX2_store_13 : decode cX2_store 13 = .ok (.iload_n 1, 1) := by decide +kernel
theorem dX2_store_14 : decode cX2_store 14 = .ok (.iaload, 1) := by decide +kernel
theorem dX2_store_15 : decode cX2_store 15 = .ok (.ifCond .ge 9, 3) := by decide +kernel
theorem dX2_store_18 : decode cX2_store 18 = .ok (.aload_n 0, 1) := by decide +kernel
theorem dX2_store_19 : decode cX2_store 19 = .ok (.iconst 1, 1) := by decide +kernel
theorem dX2_store_20 : decode cX2_store 20 = .ok (.invokevirtual 90, 3) := by decide +kernel
theorem dX2_store_23 : decode cX2_store 23 = .ok (.ireturn, 1) := by decide +kernel
theorem dX2_store_24 : decode cX2_store 24 = .ok (.aload_n 0, 1) := by decide +kernel
theorem dX2_store_25 : decode cX2_store 25 = .ok (.iload_n 1, 1) := by decide +kernel
theorem dX2_store_26 : decode cX2_store 26 = .ok (.invokevirtual 114, 3) := by decide +kernel
theorem dX2_store_29 : decode cX2_store 29 = .ok (.bipush (-9), 2) := by decide +kernel
theorem dX2_store_31 : decode cX2_store 31 = .ok (.if_icmp .eq 6, 3) := by decide +kernel
theorem dX2_store_34 : decode cX2_store 34 = .ok (.bipush (-4), 2) := by decide +kernel
theorem dX2_store_36 : decode cX2_store 36 = .ok (.ireturn, 1) := by decide +kernel
theorem dX2_store_37 : decode cX2_store 37 = .ok (.aload_n 0, 1) := by decide +kernel
theorem dX2_store_38 : decode cX2_store 38 = .ok (.aload_n 0, 1) := by decide +kernel
theorem dX2_store_39 : decode cX2_store 39 = .ok (.getfield 108, 3) := by decide +kernel
theorem dX2_store_42 : decode cX2_store 42 = .ok (.putfield 79, 3) := by decide +kernel
theorem dX2_store_45 : decode cX2_store 45 = .ok (.aload_n 0, 1) := by decide +kernel
theorem dX2_store_46 : decode cX2_store 46 = .ok (.getfield 54, 3) := by decide +kernel
theorem dX2_store_49 : decode cX2_store 49 = .ok (.iconst 0, 1) := by decide +kernel
theorem dX2_store_50 : decode cX2_store 50 = .ok (.aload_n 0, 1) := by decide +kernel
theorem dX2_store_51 : decode cX2_store 51 = .ok (.getfield 22, 3) := by decide +kernel
theorem dX2_store_54 : decode cX2_store 54 = .ok (.iconst 0, 1) := by decide +kernel
theorem dX2_store_55 : decode cX2_store 55 = .ok (.bipush 7, 2) := by decide +kernel
theorem dX2_store_57 : decode cX2_store 57 = .ok (.invokestatic 117, 3) := by decide +kernel
theorem dX2_store_60 : decode cX2_store 60 = .ok (.aload_n 0, 1) := by decide +kernel
theorem dX2_store_61 : decode cX2_store 61 = .ok (.getfield 57, 3) := by decide +kernel
theorem dX2_store_64 : decode cX2_store 64 = .ok (.iconst 0, 1) := by decide +kernel
theorem dX2_store_65 : decode cX2_store 65 = .ok (.aload_n 0, 1) := by decide +kernel
theorem dX2_store_66 : decode cX2_store 66 = .ok (.getfield 25, 3) := by decide +kernel
theorem dX2_store_69 : decode cX2_store 69 = .ok (.iconst 0, 1) := by decide +kernel
theorem dX2_store_70 : decode cX2_store 70 = .ok (.bipush 7, 2) := by decide +kernel
theorem dX2_store_72 : decode cX2_store 72 = .ok (.invokestatic 117, 3) := by decide +kernel
theorem dX2_store_75 : decode cX2_store 75 = .ok (.aload_n 0, 1) := by decide +kernel
theorem dX2_store_76 : decode cX2_store 76 = .ok (.getfield 60, 3) := by decide +kernel
theorem dX2_store_79 : decode cX2_store 79 = .ok (.iconst 0, 1) := by decide +kernel
theorem dX2_store_80 : decode cX2_store 80 = .ok (.aload_n 0, 1) := by decide +kernel
theorem dX2_store_81 : decode cX2_store 81 = .ok (.getfield 28, 3) := by decide +kernel
theorem dX2_store_84 : decode cX2_store 84 = .ok (.iconst 0, 1) := by decide +kernel
theorem dX2_store_85 : decode cX2_store 85 = .ok (.bipush 7, 2) := by decide +kernel
theorem dX2_store_87 : decode cX2_store 87 = .ok (.invokestatic 117, 3) := by decide +kernel
theorem dX2_store_90 : decode cX2_store 90 = .ok (.iconst 0, 1) := by decide +kernel
theorem dX2_store_91 : decode cX2_store 91 = .ok (.istore_n 2, 1) := by decide +kernel
theorem dX2_store_92 : decode cX2_store 92 = .ok (.iload_n 2, 1) := by decide +kernel
theorem dX2_store_93 : decode cX2_store 93 = .ok (.bipush 15, 2) := by decide +kernel
theorem dX2_store_95 : decode cX2_store 95 = .ok (.if_icmp .ge 29, 3) := by decide +kernel
theorem dX2_store_98 : decode cX2_store 98 = .ok (.aload_n 0, 1) := by decide +kernel
theorem dX2_store_99 : decode cX2_store 99 = .ok (.getfield 31, 3) := by decide +kernel
theorem dX2_store_102 : decode cX2_store 102 = .ok (.iload_n 2, 1) := by decide +kernel
theorem dX2_store_103 : decode cX2_store 103 = .ok (.iload_n 2, 1) := by decide +kernel
theorem dX2_store_104 : decode cX2_store 104 = .ok (.bipush 8, 2) := by decide +kernel
theorem dX2_store_106 : decode cX2_store 106 = .ok (.if_icmp .ge 7, 3) := by decide +kernel
theorem dX2_store_109 : decode cX2_store 109 = .ok (.iconst 0, 1) := by decide +kernel
theorem dX2_store_110 : decode cX2_store 110 = .ok (.goto 7, 3) := by decide +kernel
theorem dX2_store_113 : decode cX2_store 113 = .ok (.iload_n 2, 1) := by decide +kernel
theorem dX2_store_114 : decode cX2_store 114 = .ok (.bipush 8, 2) := by decide +kernel
theorem dX2_store_116 : decode cX2_store 116 = .ok (.isub, 1) := by decide +kernel
theorem dX2_store_117 : decode cX2_store 117 = .ok (.iastore, 1) := by decide +kernel
theorem dX2_store_118 : decode cX2_store 118 = .ok (.iinc 2 1, 3) := by decide +kernel
theorem dX2_store_121 : decode cX2_store 121 = .ok (.goto (-29), 3) := by decide +kernel
theorem dX2_store_124 : decode cX2_store 124 = .ok (.aload_n 0, 1) := by decide +kernel
theorem dX2_store_125 : decode cX2_store 125 = .ok (.iconst 0, 1) := by decide +kernel
theorem dX2_store_126 : decode cX2_store 126 = .ok (.putfield 121, 3) := by decide +kernel
theorem dX2_store_129 : decode cX2_store 129 = .ok (.iconst 0, 1) := by decide +kernel
theorem dX2_store_130 : decode cX2_store 130 = .ok (.istore_n 2, 1) := by decide +kernel
theorem dX2_store_131 : decode cX2_store 131 = .ok (.iload_n 2, 1) := by decide +kernel
theorem dX2_store_132 : decode cX2_store 132 = .ok (.iconst 3, 1) := by decide +kernel
theorem dX2_store_133 : decode cX2_store 133 = .ok (.if_icmp .ge 16, 3) := by decide +kernel
theorem dX2_store_136 : decode cX2_store 136 = .ok (.aload_n 0, 1) := by decide +kernel
theorem dX2_store_137 : decode cX2_store 137 = .ok (.getfield 43, 3) := by decide +kernel
theorem dX2_store_140 : decode cX2_store 140 = .ok (.iload_n 2, 1) := by decide +kernel
theorem dX2_store_141 : decode cX2_store 141 = .ok (.iconst 0, 1) := by decide +kernel
theorem dX2_store_142 : decode cX2_store 142 = .ok (.bastore, 1) := by decide +kernel
theorem dX2_store_143 : decode cX2_store 143 = .ok (.iinc 2 1, 3) := by decide +kernel
theorem dX2_store_146 : decode cX2_store 146 = .ok (.goto (-15), 3) := by decide +kernel
theorem dX2_store_149 : decode cX2_store 149 = .ok (.aload_n 0, 1) := by decide +kernel
theorem dX2_store_150 : decode cX2_store 150 = .ok (.getfield 79, 3) := by decide +kernel
theorem dX2_store_153 : decode cX2_store 153 = .ok (.ireturn, 1) := by decide +kernel
theorem dX2_isReady_0 : decode cX2_isReady 0 = .ok (.aload_n 0, 1) := by decide +kernel
theorem dX2_isReady_1 : decode cX2_isReady 1 = .ok (.getfield 22, 3) := by decide +kernel
theorem dX2_isReady_4 : decode cX2_isReady 4 = .ok (.iload_n 2, 1) := by decide +kernel
theorem dX2_isReady_5 : decode cX2_isReady 5 = .ok (.iaload, 1) := by decide +kernel
theorem dX2_isReady_6 : decode cX2_isReady 6 = .ok (.iconst 3, 1) := by decide +kernel
theorem dX2_isReady_7 : decode cX2_isReady 7 = .ok (.if_icmp .ne 11, 3) := by decide +kernel
theorem dX2_isReady_10 : decode cX2_isReady 10 = .ok (.aload_n 1, 1) := by decide +kernel
theorem dX2_isReady_11 : decode cX2_isReady 11 = .ok (.iconst 0, 1) := by decide +kernel
theorem dX2_isReady_12 : decode cX2_isReady 12 = .ok (.iaload, 1) := by decide +kernel
theorem dX2_isReady_13 : decode cX2_isReady 13 = .ok (.iconst 2, 1) := by decide +kernel
theorem dX2_isReady_14 : decode cX2_isReady 14 = .ok (.irem, 1) := by decide +kernel
theorem dX2_isReady_15 : decode cX2_isReady 15 = .ok (.ifCond .ne 7, 3) := by decide +kernel
theorem dX2_isReady_18 : decode cX2_isReady 18 = .ok (.iconst 1, 1) := by decide +kernel
theorem dX2_isReady_19 : decode cX2_isReady 19 = .ok (.goto 4, 3) := by decide +kernel
theorem dX2_isReady_22 : decode cX2_isReady 22 = .ok (.iconst 0, 1) := by decide +kernel
theorem dX2_isReady_23 : decode cX2_isReady 23 = .ok (.ireturn, 1) := by decide +kernel
theorem dX2_isMarked_0 : decode cX2_isMarked 0 = .ok (.aload_n 1, 1) := by decide +kernel
theorem dX2_isMarked_1 : decode cX2_isMarked 1 = .ok (.iconst 0, 1) := by decide +kernel
theorem dX2_isMarked_2 : decode cX2_isMarked 2 = .ok (.iaload, 1) := by decide +kernel
theorem dX2_isMarked_3 : decode cX2_isMarked 3 = .ok (.aload_n 0, 1) := by decide +kernel
theorem dX2_isMarked_4 : decode cX2_isMarked 4 = .ok (.getfield 28, 3) := by decide +kernel
theorem dX2_isMarked_7 : decode cX2_isMarked 7 = .ok (.iload_n 2, 1) := by decide +kernel
theorem dX2_isMarked_8 : decode cX2_isMarked 8 = .ok (.iaload, 1) := by decide +kernel
theorem dX2_isMarked_9 : decode cX2_isMarked 9 = .ok (.iconst 2, 1) := by decide +kernel
theorem dX2_isMarked_10 : decode cX2_isMarked 10 = .ok (.iadd, 1) := by decide +kernel
theorem dX2_isMarked_11 : decode cX2_isMarked 11 = .ok (.irem, 1) := by decide +kernel
theorem dX2_isMarked_12 : decode cX2_isMarked 12 = .ok (.ifCond .ne 7, 3) := by decide +kernel
theorem dX2_isMarked_15 : decode cX2_isMarked 15 = .ok (.iconst 1, 1) := by decide +kernel
theorem dX2_isMarked_16 : decode cX2_isMarked 16 = .ok (.goto 4, 3) := by decide +kernel
theorem dX2_isMarked_19 : decode cX2_isMarked 19 = .ok (.iconst 0, 1) := by decide +kernel
theorem dX2_isMarked_20 : decode cX2_isMarked 20 = .ok (.ireturn, 1) := by decide +kernel
theorem dX2_sentBy_0 : decode cX2_sentBy 0 = .ok (.aload_n 1, 1) := by decide +kernel
theorem dX2_sentBy_1 : decode cX2_sentBy 1 = .ok (.iconst 1, 1) := by decide +kernel
theorem dX2_sentBy_2 : decode cX2_sentBy 2 = .ok (.iload_n 2, 1) := by decide +kernel
theorem dX2_sentBy_3 : decode cX2_sentBy 3 = .ok (.iadd, 1) := by decide +kernel
theorem dX2_sentBy_4 : decode cX2_sentBy 4 = .ok (.iaload, 1) := by decide +kernel
theorem dX2_sentBy_5 : decode cX2_sentBy 5 = .ok (.aload_n 0, 1) := by decide +kernel
theorem dX2_sentBy_6 : decode cX2_sentBy 6 = .ok (.getfield 25, 3) := by decide +kernel
theorem dX2_sentBy_9 : decode cX2_sentBy 9 = .ok (.iload_n 2, 1) := by decide +kernel
theorem dX2_sentBy_10 : decode cX2_sentBy 10 = .ok (.iaload, 1) := by decide +kernel
theorem dX2_sentBy_11 : decode cX2_sentBy 11 = .ok (.iconst 1, 1) := by decide +kernel
theorem dX2_sentBy_12 : decode cX2_sentBy 12 = .ok (.isub, 1) := by decide +kernel
theorem dX2_sentBy_13 : decode cX2_sentBy 13 = .ok (.ishr, 1) := by decide +kernel
theorem dX2_sentBy_14 : decode cX2_sentBy 14 = .ok (.iconst 1, 1) := by decide +kernel
theorem dX2_sentBy_15 : decode cX2_sentBy 15 = .ok (.iand, 1) := by decide +kernel
theorem dX2_sentBy_16 : decode cX2_sentBy 16 = .ok (.istore 5, 2) := by decide +kernel
theorem dX2_sentBy_18 : decode cX2_sentBy 18 = .ok (.aload_n 0, 1) := by decide +kernel
theorem dX2_sentBy_19 : decode cX2_sentBy 19 = .ok (.aload_n 1, 1) := by decide +kernel
theorem dX2_sentBy_20 : decode cX2_sentBy 20 = .ok (.iload_n 2, 1) := by decide +kernel
theorem dX2_sentBy_21 : decode cX2_sentBy 21 = .ok (.invokevirtual 124, 3) := by decide +kernel
theorem dX2_sentBy_24 : decode cX2_sentBy 24 = .ok (.ifCond .eq 13, 3) := by decide +kernel
theorem dX2_sentBy_27 : decode cX2_sentBy 27 = .ok (.iload 5, 2) := by decide +kernel
theorem dX2_sentBy_29 : decode cX2_sentBy 29 = .ok (.iconst 1, 1) := by decide +kernel
theorem dX2_sentBy_30 : decode cX2_sentBy 30 = .ok (.if_icmp .ne 7, 3) := by decide +kernel
theorem dX2_sentBy_33 : decode cX2_sentBy 33 = .ok (.iconst 1, 1) := by decide +kernel
theorem dX2_sentBy_34 : decode cX2_sentBy 34 = .ok (.goto 5, 3) := by decide +kernel
theorem dX2_sentBy_37 : decode cX2_sentBy 37 = .ok (.iload 4, 2) := by decide +kernel
theorem dX2_sentBy_39 : decode cX2_sentBy 39 = .ok (.istore 6, 2) := by decide +kernel
theorem dX2_sentBy_41 : decode cX2_sentBy 41 = .ok (.iload_n 3, 1) := by decide +kernel
theorem dX2_sentBy_42 : decode cX2_sentBy 42 = .ok (.tableswitch 92 1 5 #[34, 50, 92, 53, 72], 34) := by decide +kernel
theorem dX2_sentBy_76 : decode cX2_sentBy 76 = .ok (.aload_n 0, 1) := by decide +kernel
theorem dX2_sentBy_77 : decode cX2_sentBy 77 = .ok (.aload_n 1, 1) := by decide +kernel
theorem dX2_sentBy_78 : decode cX2_sentBy 78 = .ok (.iload_n 2, 1) := by decide +kernel
theorem dX2_sentBy_79 : decode cX2_sentBy 79 = .ok (.invokevirtual 124, 3) := by decide +kernel
theorem dX2_sentBy_82 : decode cX2_sentBy 82 = .ok (.ifCond .eq 7, 3) := by decide +kernel
theorem dX2_sentBy_85 : decode cX2_sentBy 85 = .ok (.iconst 0, 1) := by decide +kernel
theorem dX2_sentBy_86 : decode cX2_sentBy 86 = .ok (.goto 5, 3) := by decide +kernel
theorem dX2_sentBy_89 : decode cX2_sentBy 89 = .ok (.iload 4, 2) := by decide +kernel
theorem dX2_sentBy_91 : decode cX2_sentBy 91 = .ok (.ireturn, 1) := by decide +kernel
theorem dX2_sentBy_92 : decode cX2_sentBy 92 = .ok (.iload 6, 2) := by decide +kernel
theorem dX2_sentBy_94 : decode cX2_sentBy 94 = .ok (.ireturn, 1) := by decide +kernel
theorem dX2_sentBy_95 : decode cX2_sentBy 95 = .ok (.aload_n 0, 1) := by decide +kernel
theorem dX2_sentBy_96 : decode cX2_sentBy 96 = .ok (.aload_n 1, 1) := by decide +kernel
theorem dX2_sentBy_97 : decode cX2_sentBy 97 = .ok (.iload_n 2, 1) := by decide +kernel
theorem dX2_sentBy_98 : decode cX2_sentBy 98 = .ok (.invokevirtual 124, 3) := by decide +kernel
theorem dX2_sentBy_101 : decode cX2_sentBy 101 = .ok (.ifCond .eq 10, 3) := by decide +kernel
theorem dX2_sentBy_104 : decode cX2_sentBy 104 = .ok (.iconst 1, 1) := by decide +kernel
theorem dX2_sentBy_105 : decode cX2_sentBy 105 = .ok (.iload 4, 2) := by decide +kernel
theorem dX2_sentBy_107 : decode cX2_sentBy 107 = .ok (.isub, 1) := by decide +kernel
theorem dX2_sentBy_108 : decode cX2_sentBy 108 = .ok (.goto 5, 3) := by decide +kernel
theorem dX2_sentBy_111 : decode cX2_sentBy 111 = .ok (.iload 4, 2) := by decide +kernel
theorem dX2_sentBy_113 : decode cX2_sentBy 113 = .ok (.ireturn, 1) := by decide +kernel
theorem dX2_sentBy_114 : decode cX2_sentBy 114 = .ok (.aload_n 1, 1) := by decide +kernel
theorem dX2_sentBy_115 : decode cX2_sentBy 115 = .ok (.iconst 0, 1) := by decide +kernel
theorem dX2_sentBy_116 : decode cX2_sentBy 116 = .ok (.iaload, 1) := by decide +kernel
theorem dX2_sentBy_117 : decode cX2_sentBy 117 = .ok (.iconst 3, 1) := by decide +kernel
theorem dX2_sentBy_118 : decode cX2_sentBy 118 = .ok (.irem, 1) := by decide +kernel
theorem dX2_sentBy_119 : decode cX2_sentBy 119 = .ok (.ifCond .ne 12, 3) := by decide +kernel
theorem dX2_sentBy_122 : decode cX2_sentBy 122 = .ok (.iload 5, 2) := by decide +kernel
theorem dX2_sentBy_124 : decode cX2_sentBy 124 = .ok (.ifCond .ne 7, 3) := by decide +kernel
theorem dX2_sentBy_127 : decode cX2_sentBy 127 = .ok (.iconst 0, 1) := by decide +kernel
theorem dX2_sentBy_128 : decode cX2_sentBy 128 = .ok (.goto 5, 3) := by decide +kernel
theorem dX2_sentBy_131 : decode cX2_sentBy 131 = .ok (.iload 6, 2) := by decide +kernel
theorem dX2_sentBy_133 : decode cX2_sentBy 133 = .ok (.ireturn, 1) := by decide +kernel
theorem dX2_sentBy_134 : decode cX2_sentBy 134 = .ok (.iload 4, 2) := by decide +kernel
theorem dX2_sentBy_136 : decode cX2_sentBy 136 = .ok (.ireturn, 1) := by decide +kernel
theorem dX2_outOf_0 : decode cX2_outOf 0 = .ok (.aload_n 0, 1) := by decide +kernel
theorem dX2_outOf_1 : decode cX2_outOf 1 = .ok (.aload_n 1, 1) := by decide +kernel
theorem dX2_outOf_2 : decode cX2_outOf 2 = .ok (.iload_n 2, 1) := by decide +kernel
theorem dX2_outOf_3 : decode cX2_outOf 3 = .ok (.invokevirtual 128, 3) := by decide +kernel
theorem dX2_outOf_6 : decode cX2_outOf 6 = .ok (.ifCond .eq 13, 3) := by decide +kernel
theorem dX2_outOf_9 : decode cX2_outOf 9 = .ok (.aload_n 1, 1) := by decide +kernel
theorem dX2_outOf_10 : decode cX2_outOf 10 = .ok (.iconst 1, 1) := by decide +kernel
theorem dX2_outOf_11 : decode cX2_outOf 11 = .ok (.iload_n 2, 1) := by decide +kernel
theorem dX2_outOf_12 : decode cX2_outOf 12 = .ok (.iadd, 1) := by decide +kernel
theorem dX2_outOf_13 : decode cX2_outOf 13 = .ok (.iaload, 1) := by decide +kernel
theorem dX2_outOf_14 : decode cX2_outOf 14 = .ok (.iconst 1, 1) := by decide +kernel
theorem dX2_outOf_15 : decode cX2_outOf 15 = .ok (.iand, 1) := by decide +kernel
theorem dX2_outOf_16 : decode cX2_outOf 16 = .ok (.goto 4, 3) := by decide +kernel
theorem dX2_outOf_19 : decode cX2_outOf 19 = .ok (.iconst 0, 1) := by decide +kernel
theorem dX2_outOf_20 : decode cX2_outOf 20 = .ok (.ireturn, 1) := by decide +kernel
theorem dX2_fromWhich_0 : decode cX2_fromWhich 0 = .ok (.iconst 0, 1) := by decide +kernel
theorem dX2_fromWhich_1 : decode cX2_fromWhich 1 = .ok (.istore_n 3, 1) := by decide +kernel
theorem dX2_fromWhich_2 : decode cX2_fromWhich 2 = .ok (.iconst 0, 1) := by decide +kernel
theorem dX2_fromWhich_3 : decode cX2_fromWhich 3 = .ok (.istore 4, 2) := by decide +kernel
theorem dX2_fromWhich_5 : decode cX2_fromWhich 5 = .ok (.iload 4, 2) := by decide +kernel
theorem dX2_fromWhich_7 : decode cX2_fromWhich 7 = .ok (.aload_n 0, 1) := by decide +kernel
theorem dX2_fromWhich_8 : decode cX2_fromWhich 8 = .ok (.getfield 79, 3) := by decide +kernel
theorem dX2_fromWhich_11 : decode cX2_fromWhich 11 = .ok (.if_icmp .ge 27, 3) := by decide +kernel
theorem dX2_fromWhich_14 : decode cX2_fromWhich 14 = .ok (.aload_n 1, 1) := by decide +kernel
theorem dX2_fromWhich_15 : decode cX2_fromWhich 15 = .ok (.bipush 8, 2) := by decide +kernel
theorem dX2_fromWhich_17 : decode cX2_fromWhich 17 = .ok (.iload 4, 2) := by decide +kernel
theorem dX2_fromWhich_19 : decode cX2_fromWhich 19 = .ok (.iadd, 1) := by decide +kernel
theorem dX2_fromWhich_20 : decode cX2_fromWhich 20 = .ok (.iaload, 1) := by decide +kernel
theorem dX2_fromWhich_21 : decode cX2_fromWhich 21 = .ok (.iload_n 2, 1) := by decide +kernel
theorem dX2_fromWhich_22 : decode cX2_fromWhich 22 = .ok (.if_icmp .ne 8, 3) := by decide +kernel
theorem dX2_fromWhich_25 : decode cX2_fromWhich 25 = .ok (.iload 4, 2) := by decide +kernel
theorem dX2_fromWhich_27 : decode cX2_fromWhich 27 = .ok (.goto 4, 3) := by decide +kernel
theorem dX2_fromWhich_30 : decode cX2_fromWhich 30 = .ok (.iload_n 3, 1) := by decide +kernel
theorem dX2_fromWhich_31 : decode cX2_fromWhich 31 = .ok (.istore_n 3, 1) := by decide +kernel
theorem dX2_fromWhich_32 : decode cX2_fromWhich 32 = .ok (.iinc 4 1, 3) := by decide +kernel
theorem dX2_fromWhich_35 : decode cX2_fromWhich 35 = .ok (.goto (-30), 3) := by decide +kernel
theorem dX2_fromWhich_38 : decode cX2_fromWhich 38 = .ok (.iload_n 3, 1) := by decide +kernel
theorem dX2_fromWhich_39 : decode cX2_fromWhich 39 = .ok (.ireturn, 1) := by decide +kernel
theorem dX2_tickOn_0 : decode cX2_tickOn 0 = .ok (.iconst 0, 1) := by decide +kernel
theorem dX2_tickOn_1 : decode cX2_tickOn 1 = .ok (.istore_n 2, 1) := by decide +kernel
theorem dX2_tickOn_2 : decode cX2_tickOn 2 = .ok (.iload_n 2, 1) := by decide +kernel
theorem dX2_tickOn_3 : decode cX2_tickOn 3 = .ok (.aload_n 0, 1) := by decide +kernel
theorem dX2_tickOn_4 : decode cX2_tickOn 4 = .ok (.getfield 79, 3) := by decide +kernel
theorem dX2_tickOn_7 : decode cX2_tickOn 7 = .ok (.if_icmp .ge 74, 3) := by decide +kernel
theorem dX2_tickOn_10 : decode cX2_tickOn 10 = .ok (.aload_n 0, 1) := by decide +kernel
theorem dX2_tickOn_11 : decode cX2_tickOn 11 = .ok (.aload_n 1, 1) := by decide +kernel
theorem dX2_tickOn_12 : decode cX2_tickOn 12 = .ok (.iload_n 2, 1) := by decide +kernel
theorem dX2_tickOn_13 : decode cX2_tickOn 13 = .ok (.aload_n 0, 1) := by decide +kernel
theorem dX2_tickOn_14 : decode cX2_tickOn 14 = .ok (.getfield 22, 3) := by decide +kernel
theorem dX2_tickOn_17 : decode cX2_tickOn 17 = .ok (.iload_n 2, 1) := by decide +kernel
theorem dX2_tickOn_18 : decode cX2_tickOn 18 = .ok (.iaload, 1) := by decide +kernel
theorem dX2_tickOn_19 : decode cX2_tickOn 19 = .ok (.aload_n 0, 1) := by decide +kernel
theorem dX2_tickOn_20 : decode cX2_tickOn 20 = .ok (.aload_n 1, 1) := by decide +kernel
theorem dX2_tickOn_21 : decode cX2_tickOn 21 = .ok (.aload_n 0, 1) := by decide +kernel
theorem dX2_tickOn_22 : decode cX2_tickOn 22 = .ok (.aload_n 1, 1) := by decide +kernel
theorem dX2_tickOn_23 : decode cX2_tickOn 23 = .ok (.iload_n 2, 1) := by decide +kernel
theorem dX2_tickOn_24 : decode cX2_tickOn 24 = .ok (.invokevirtual 131, 3) := by decide +kernel
theorem dX2_tickOn_27 : decode cX2_tickOn 27 = .ok (.invokevirtual 135, 3) := by decide +kernel
theorem dX2_tickOn_30 : decode cX2_tickOn 30 = .ok (.invokevirtual 138, 3) := by decide +kernel
theorem dX2_tickOn_33 : decode cX2_tickOn 33 = .ok (.istore_n 3, 1) := by decide +kernel
theorem dX2_tickOn_34 : decode cX2_tickOn 34 = .ok (.aload_n 0, 1) := by decide +kernel
theorem dX2_tickOn_35 : decode cX2_tickOn 35 = .ok (.getfield 63, 3) := by decide +kernel
theorem dX2_tickOn_38 : decode cX2_tickOn 38 = .ok (.iload_n 2, 1) := by decide +kernel
theorem dX2_tickOn_39 : decode cX2_tickOn 39 = .ok (.aload_n 0, 1) := by decide +kernel
theorem dX2_tickOn_40 : decode cX2_tickOn 40 = .ok (.aload_n 1, 1) := by decide +kernel
theorem dX2_tickOn_41 : decode cX2_tickOn 41 = .ok (.iload_n 2, 1) := by decide +kernel
theorem dX2_tickOn_42 : decode cX2_tickOn 42 = .ok (.invokevirtual 128, 3) := by decide +kernel
theorem dX2_tickOn_45 : decode cX2_tickOn 45 = .ok (.ifCond .eq 24, 3) := by decide +kernel
theorem dX2_tickOn_48 : decode cX2_tickOn 48 = .ok (.aload_n 1, 1) := by decide +kernel
theorem dX2_tickOn_49 : decode cX2_tickOn 49 = .ok (.iconst 1, 1) := by decide +kernel
theorem dX2_tickOn_50 : decode cX2_tickOn 50 = .ok (.iload_n 2, 1) := by decide +kernel
theorem dX2_tickOn_51 : decode cX2_tickOn 51 = .ok (.iadd, 1) := by decide +kernel
theorem dX2_tickOn_52 : decode cX2_tickOn 52 = .ok (.iaload, 1) := by decide +kernel
theorem dX2_tickOn_53 : decode cX2_tickOn 53 = .ok (.iconst 1, 1) := by decide +kernel
theorem dX2_tickOn_54 : decode cX2_tickOn 54 = .ok (.ishr, 1) := by decide +kernel
theorem dX2_tickOn_55 : decode cX2_tickOn 55 = .ok (.iload_n 3, 1) := by decide +kernel
theorem dX2_tickOn_56 : decode cX2_tickOn 56 = .ok (.aload_n 0, 1) := by decide +kernel
theorem dX2_tickOn_57 : decode cX2_tickOn 57 = .ok (.getfield 25, 3) := by decide +kernel
theorem dX2_tickOn_60 : decode cX2_tickOn 60 = .ok (.iload_n 2, 1) := by decide +kernel
theorem dX2_tickOn_61 : decode cX2_tickOn 61 = .ok (.iaload, 1) := by decide +kernel
theorem dX2_tickOn_62 : decode cX2_tickOn 62 = .ok (.iconst 1, 1) := by decide +kernel
theorem dX2_tickOn_63 : decode cX2_tickOn 63 = .ok (.isub, 1) := by decide +kernel
theorem dX2_tickOn_64 : decode cX2_tickOn 64 = .ok (.ishl, 1) := by decide +kernel
theorem dX2_tickOn_65 : decode cX2_tickOn 65 = .ok (.ior, 1) := by decide +kernel
theorem dX2_tickOn_66 : decode cX2_tickOn 66 = .ok (.goto 8, 3) := by decide +kernel
theorem dX2_tickOn_69 : decode cX2_tickOn 69 = .ok (.aload_n 1, 1) := by decide +kernel
theorem dX2_tickOn_70 : decode cX2_tickOn 70 = .ok (.iconst 1, 1) := by decide +kernel
theorem dX2_tickOn_71 : decode cX2_tickOn 71 = .ok (.iload_n 2, 1) := by decide +kernel
theorem dX2_tickOn_72 : decode cX2_tickOn 72 = .ok (.iadd, 1) := by decide +kernel
theorem dX2_tickOn_73 : decode cX2_tickOn 73 = .ok (.iaload, 1) := by decide +kernel
theorem dX2_tickOn_74 : decode cX2_tickOn 74 = .ok (.iastore, 1) := by decide +kernel
theorem dX2_tickOn_75 : decode cX2_tickOn 75 = .ok (.iinc 2 1, 3) := by decide +kernel
theorem dX2_tickOn_78 : decode cX2_tickOn 78 = .ok (.goto (-76), 3) := by decide +kernel
theorem dX2_tickOn_81 : decode cX2_tickOn 81 = .ok (.aload_n 0, 1) := by decide +kernel
theorem dX2_tickOn_82 : decode cX2_tickOn 82 = .ok (.getfield 63, 3) := by decide +kernel
theorem dX2_tickOn_85 : decode cX2_tickOn 85 = .ok (.iconst 0, 1) := by decide +kernel
theorem dX2_tickOn_86 : decode cX2_tickOn 86 = .ok (.aload_n 1, 1) := by decide +kernel
theorem dX2_tickOn_87 : decode cX2_tickOn 87 = .ok (.iconst 1, 1) := by decide +kernel
theorem dX2_tickOn_88 : decode cX2_tickOn 88 = .ok (.aload_n 0, 1) := by decide +kernel
theorem dX2_tickOn_89 : decode cX2_tickOn 89 = .ok (.getfield 79, 3) := by decide +kernel
theorem dX2_tickOn_92 : decode cX2_tickOn 92 = .ok (.invokestatic 117, 3) := by decide +kernel
theorem dX2_tickOn_95 : decode cX2_tickOn 95 = .ok (.aload_n 1, 1) := by decide +kernel
theorem dX2_tickOn_96 : decode cX2_tickOn 96 = .ok (.iconst 0, 1) := by decide +kernel
theorem dX2_tickOn_97 : decode cX2_tickOn 97 = .ok (.dup2, 1) := by decide +kernel
theorem dX2_tickOn_98 : decode cX2_tickOn 98 = .ok (.iaload, 1) := by decide +kernel
theorem dX2_tickOn_99 : decode cX2_tickOn 99 = .ok (.iconst 1, 1) := by decide +kernel
theorem dX2_tickOn_100 : decode cX2_tickOn 100 = .ok (.iadd, 1) := by decide +kernel
theorem dX2_tickOn_101 : decode cX2_tickOn 101 = .ok (.iastore, 1) := by decide +kernel
theorem dX2_tickOn_102 : decode cX2_tickOn 102 = .ok (.return_, 1) := by decide +kernel
theorem dX2_pulses_0 : decode cX2_pulses 0 = .ok (.iconst 0, 1) := by decide +kernel
theorem dX2_pulses_1 : decode cX2_pulses 1 = .ok (.istore_n 2, 1) := by decide +kernel
theorem dX2_pulses_2 : decode cX2_pulses 2 = .ok (.iconst 0, 1) := by decide +kernel
theorem dX2_pulses_3 : decode cX2_pulses 3 = .ok (.istore_n 3, 1) := by decide +kernel
theorem dX2_pulses_4 : decode cX2_pulses 4 = .ok (.iload_n 3, 1) := by decide +kernel
theorem dX2_pulses_5 : decode cX2_pulses 5 = .ok (.aload_n 0, 1) := by decide +kernel
theorem dX2_pulses_6 : decode cX2_pulses 6 = .ok (.getfield 79, 3) := by decide +kernel
theorem dX2_pulses_9 : decode cX2_pulses 9 = .ok (.if_icmp .ge 20, 3) := by decide +kernel
theorem dX2_pulses_12 : decode cX2_pulses 12 = .ok (.iload_n 2, 1) := by decide +kernel
theorem dX2_pulses_13 : decode cX2_pulses 13 = .ok (.aload_n 1, 1) := by decide +kernel
theorem dX2_pulses_14 : decode cX2_pulses 14 = .ok (.iconst 1, 1) := by decide +kernel
theorem dX2_pulses_15 : decode cX2_pulses 15 = .ok (.iload_n 3, 1) := by decide +kernel
theorem dX2_pulses_16 : decode cX2_pulses 16 = .ok (.iadd, 1) := by decide +kernel
theorem dX2_pulses_17 : decode cX2_pulses 17 = .ok (.iaload, 1) := by decide +kernel
theorem dX2_pulses_18 : decode cX2_pulses 18 = .ok (.invokestatic 142, 3) := by decide +kernel
theorem dX2_pulses_21 : decode cX2_pulses 21 = .ok (.iadd, 1) := by decide +kernel
theorem dX2_pulses_22 : decode cX2_pulses 22 = .ok (.istore_n 2, 1) := by decide +kernel
theorem dX2_pulses_23 : decode cX2_pulses 23 = .ok (.iinc 3 1, 3) := by decide +kernel
theorem dX2_pulses_26 : decode cX2_pulses 26 = .ok (.goto (-22), 3) := by decide +kernel
theorem dX2_pulses_29 : decode cX2_pulses 29 = .ok (.iload_n 2, 1) := by decide +kernel
theorem dX2_pulses_30 : decode cX2_pulses 30 = .ok (.ireturn, 1) := by decide +kernel
theorem dX2_tube_0 : decode cX2_tube 0 = .ok (.aload_n 0, 1) := by decide +kernel
theorem dX2_tube_1 : decode cX2_tube 1 = .ok (.iload_n 1, 1) := by decide +kernel
theorem dX2_tube_2 : decode cX2_tube 2 = .ok (.invokevirtual 145, 3) := by decide +kernel
theorem dX2_tube_5 : decode cX2_tube 5 = .ok (.ifCond .eq 13, 3) := by decide +kernel
theorem dX2_tube_8 : decode cX2_tube 8 = .ok (.iload_n 2, 1) := by decide +kernel
theorem dX2_tube_9 : decode cX2_tube 9 = .ok (.iconst 0, 1) := by decide +kernel
theorem dX2_tube_10 : decode cX2_tube 10 = .ok (.bipush 6, 2) := by decide +kernel
theorem dX2_tube_12 : decode cX2_tube 12 = .ok (.invokestatic 82, 3) := by decide +kernel
theorem dX2_tube_15 : decode cX2_tube 15 = .ok (.ifCond .ne 5, 3) := by decide +kernel
theorem dX2_tube_18 : decode cX2_tube 18 = .ok (.iconst (-1), 1) := by decide +kernel
theorem dX2_tube_19 : decode cX2_tube 19 = .ok (.ireturn, 1) := by decide +kernel
theorem dX2_tube_20 : decode cX2_tube 20 = .ok (.iload_n 2, 1) := by decide +kernel
theorem dX2_tube_21 : decode cX2_tube 21 = .ok (.tableswitch 127 0 5 #[39, 51, 63, 75, 89, 104], 39) := by decide +kernel
theorem dX2_tube_60 : decode cX2_tube 60 = .ok (.aload_n 0, 1) := by decide +kernel
theorem dX2_tube_61 : decode cX2_tube 61 = .ok (.aload_n 0, 1) := by decide +kernel
theorem dX2_tube_62 : decode cX2_tube 62 = .ok (.getfield 22, 3) := by decide +kernel
theorem dX2_tube_65 : decode cX2_tube 65 = .ok (.iload_n 1, 1) := by decide +kernel
theorem dX2_tube_66 : decode cX2_tube 66 = .ok (.iaload, 1) := by decide +kernel
theorem dX2_tube_67 : decode cX2_tube 67 = .ok (.iconst 1, 1) := by decide +kernel
theorem dX2_tube_68 : decode cX2_tube 68 = .ok (.invokevirtual 102, 3) := by decide +kernel
theorem dX2_tube_71 : decode cX2_tube 71 = .ok (.ireturn, 1) := by decide +kernel
theorem dX2_tube_72 : decode cX2_tube 72 = .ok (.aload_n 0, 1) := by decide +kernel
theorem dX2_tube_73 : decode cX2_tube 73 = .ok (.aload_n 0, 1) := by decide +kernel
theorem dX2_tube_74 : decode cX2_tube 74 = .ok (.getfield 25, 3) := by decide +kernel
theorem dX2_tube_77 : decode cX2_tube 77 = .ok (.iload_n 1, 1) := by decide +kernel
theorem dX2_tube_78 : decode cX2_tube 78 = .ok (.iaload, 1) := by decide +kernel
theorem dX2_tube_79 : decode cX2_tube 79 = .ok (.iconst 1, 1) := by decide +kernel
theorem dX2_tube_80 : decode cX2_tube 80 = .ok (.invokevirtual 102, 3) := by decide +kernel
theorem dX2_tube_83 : decode cX2_tube 83 = .ok (.ireturn, 1) := by decide +kernel
theorem dX2_tube_84 : decode cX2_tube 84 = .ok (.aload_n 0, 1) := by decide +kernel
theorem dX2_tube_85 : decode cX2_tube 85 = .ok (.aload_n 0, 1) := by decide +kernel
theorem dX2_tube_86 : decode cX2_tube 86 = .ok (.getfield 28, 3) := by decide +kernel
theorem dX2_tube_89 : decode cX2_tube 89 = .ok (.iload_n 1, 1) := by decide +kernel
theorem dX2_tube_90 : decode cX2_tube 90 = .ok (.iaload, 1) := by decide +kernel
theorem dX2_tube_91 : decode cX2_tube 91 = .ok (.iconst 1, 1) := by decide +kernel
theorem dX2_tube_92 : decode cX2_tube 92 = .ok (.invokevirtual 102, 3) := by decide +kernel
theorem dX2_tube_95 : decode cX2_tube 95 = .ok (.ireturn, 1) := by decide +kernel
theorem dX2_tube_96 : decode cX2_tube 96 = .ok (.aload_n 0, 1) := by decide +kernel
theorem dX2_tube_97 : decode cX2_tube 97 = .ok (.aload_n 0, 1) := by decide +kernel
theorem dX2_tube_98 : decode cX2_tube 98 = .ok (.getfield 31, 3) := by decide +kernel
theorem dX2_tube_101 : decode cX2_tube 101 = .ok (.iconst 1, 1) := by decide +kernel
theorem dX2_tube_102 : decode cX2_tube 102 = .ok (.iload_n 1, 1) := by decide +kernel
theorem dX2_tube_103 : decode cX2_tube 103 = .ok (.iadd, 1) := by decide +kernel
theorem dX2_tube_104 : decode cX2_tube 104 = .ok (.iaload, 1) := by decide +kernel
theorem dX2_tube_105 : decode cX2_tube 105 = .ok (.iconst 1, 1) := by decide +kernel
theorem dX2_tube_106 : decode cX2_tube 106 = .ok (.invokevirtual 102, 3) := by decide +kernel
theorem dX2_tube_109 : decode cX2_tube 109 = .ok (.ireturn, 1) := by decide +kernel
theorem dX2_tube_110 : decode cX2_tube 110 = .ok (.aload_n 0, 1) := by decide +kernel
theorem dX2_tube_111 : decode cX2_tube 111 = .ok (.aload_n 0, 1) := by decide +kernel
theorem dX2_tube_112 : decode cX2_tube 112 = .ok (.getfield 31, 3) := by decide +kernel
theorem dX2_tube_115 : decode cX2_tube 115 = .ok (.bipush 8, 2) := by decide +kernel
theorem dX2_tube_117 : decode cX2_tube 117 = .ok (.iload_n 1, 1) := by decide +kernel
theorem dX2_tube_118 : decode cX2_tube 118 = .ok (.iadd, 1) := by decide +kernel
theorem dX2_tube_119 : decode cX2_tube 119 = .ok (.iaload, 1) := by decide +kernel
theorem dX2_tube_120 : decode cX2_tube 120 = .ok (.iconst 1, 1) := by decide +kernel
theorem dX2_tube_121 : decode cX2_tube 121 = .ok (.invokevirtual 102, 3) := by decide +kernel
theorem dX2_tube_124 : decode cX2_tube 124 = .ok (.ireturn, 1) := by decide +kernel
theorem dX2_tube_125 : decode cX2_tube 125 = .ok (.aload_n 0, 1) := by decide +kernel
theorem dX2_tube_126 : decode cX2_tube 126 = .ok (.aload_n 0, 1) := by decide +kernel
theorem dX2_tube_127 : decode cX2_tube 127 = .ok (.aload_n 0, 1) := by decide +kernel
theorem dX2_tube_128 : decode cX2_tube 128 = .ok (.getfield 31, 3) := by decide +kernel
theorem dX2_tube_131 : decode cX2_tube 131 = .ok (.iload_n 1, 1) := by decide +kernel
theorem dX2_tube_132 : decode cX2_tube 132 = .ok (.invokevirtual 128, 3) := by decide +kernel
theorem dX2_tube_135 : decode cX2_tube 135 = .ok (.ifCond .eq 7, 3) := by decide +kernel
theorem dX2_tube_138 : decode cX2_tube 138 = .ok (.iconst 1, 1) := by decide +kernel
theorem dX2_tube_139 : decode cX2_tube 139 = .ok (.goto 4, 3) := by decide +kernel
theorem dX2_tube_142 : decode cX2_tube 142 = .ok (.iconst 0, 1) := by decide +kernel
theorem dX2_tube_143 : decode cX2_tube 143 = .ok (.iconst 1, 1) := by decide +kernel
theorem dX2_tube_144 : decode cX2_tube 144 = .ok (.invokevirtual 102, 3) := by decide +kernel
theorem dX2_tube_147 : decode cX2_tube 147 = .ok (.ireturn, 1) := by decide +kernel
theorem dX2_tube_148 : decode cX2_tube 148 = .ok (.aload_n 0, 1) := by decide +kernel
theorem dX2_tube_149 : decode cX2_tube 149 = .ok (.aload_n 0, 1) := by decide +kernel
theorem dX2_tube_150 : decode cX2_tube 150 = .ok (.iload_n 1, 1) := by decide +kernel
theorem dX2_tube_151 : decode cX2_tube 151 = .ok (.aload_n 0, 1) := by decide +kernel
theorem dX2_tube_152 : decode cX2_tube 152 = .ok (.getfield 22, 3) := by decide +kernel
theorem dX2_tube_155 : decode cX2_tube 155 = .ok (.iload_n 1, 1) := by decide +kernel
theorem dX2_tube_156 : decode cX2_tube 156 = .ok (.iaload, 1) := by decide +kernel
theorem dX2_tube_157 : decode cX2_tube 157 = .ok (.invokevirtual 148, 3) := by decide +kernel
theorem dX2_tube_160 : decode cX2_tube 160 = .ok (.iconst 1, 1) := by decide +kernel
theorem dX2_tube_161 : decode cX2_tube 161 = .ok (.invokevirtual 102, 3) := by decide +kernel
theorem dX2_tube_164 : decode cX2_tube 164 = .ok (.ireturn, 1) := by decide +kernel
theorem dX2_sentNow_0 : decode cX2_sentNow 0 = .ok (.aload_n 0, 1) := by decide +kernel
theorem dX2_sentNow_1 : decode cX2_sentNow 1 = .ok (.aload_n 0, 1) := by decide +kernel
theorem dX2_sentNow_2 : decode cX2_sentNow 2 = .ok (.getfield 31, 3) := by decide +kernel
theorem dX2_sentNow_5 : decode cX2_sentNow 5 = .ok (.iload_n 1, 1) := by decide +kernel
theorem dX2_sentNow_6 : decode cX2_sentNow 6 = .ok (.iload_n 2, 1) := by decide +kernel
theorem dX2_sentNow_7 : decode cX2_sentNow 7 = .ok (.aload_n 0, 1) := by decide +kernel
theorem dX2_sentNow_8 : decode cX2_sentNow 8 = .ok (.aload_n 0, 1) := by decide +kernel
theorem dX2_sentNow_9 : decode cX2_sentNow 9 = .ok (.getfield 31, 3) := by decide +kernel
theorem dX2_sentNow_12 : decode cX2_sentNow 12 = .ok (.aload_n 0, 1) := by decide +kernel
theorem dX2_sentNow_13 : decode cX2_sentNow 13 = .ok (.aload_n 0, 1) := by decide +kernel
theorem dX2_sentNow_14 : decode cX2_sentNow 14 = .ok (.getfield 31, 3) := by decide +kernel
theorem dX2_sentNow_17 : decode cX2_sentNow 17 = .ok (.iload_n 1, 1) := by decide +kernel
theorem dX2_sentNow_18 : decode cX2_sentNow 18 = .ok (.invokevirtual 131, 3) := by decide +kernel
theorem dX2_sentNow_21 : decode cX2_sentNow 21 = .ok (.invokevirtual 135, 3) := by decide +kernel
theorem dX2_sentNow_24 : decode cX2_sentNow 24 = .ok (.invokevirtual 138, 3) := by decide +kernel
theorem dX2_sentNow_27 : decode cX2_sentNow 27 = .ok (.ireturn, 1) := by decide +kernel
theorem dX2_isA_0 : decode cX2_isA 0 = .ok (.aload_n 0, 1) := by decide +kernel
theorem dX2_isA_1 : decode cX2_isA 1 = .ok (.getfield 22, 3) := by decide +kernel
theorem dX2_isA_4 : decode cX2_isA 4 = .ok (.iload_n 1, 1) := by decide +kernel
theorem dX2_isA_5 : decode cX2_isA 5 = .ok (.iaload, 1) := by decide +kernel
theorem dX2_isA_6 : decode cX2_isA 6 = .ok (.iload_n 2, 1) := by decide +kernel
theorem dX2_isA_7 : decode cX2_isA 7 = .ok (.if_icmp .eq 33, 3) := by decide +kernel
theorem dX2_isA_10 : decode cX2_isA 10 = .ok (.iload_n 2, 1) := by decide +kernel
theorem dX2_isA_11 : decode cX2_isA 11 = .ok (.iconst 1, 1) := by decide +kernel
theorem dX2_isA_12 : decode cX2_isA 12 = .ok (.if_icmp .ne 13, 3) := by decide +kernel
theorem dX2_isA_15 : decode cX2_isA 15 = .ok (.aload_n 0, 1) := by decide +kernel
theorem dX2_isA_16 : decode cX2_isA 16 = .ok (.getfield 22, 3) := by decide +kernel
theorem dX2_isA_19 : decode cX2_isA 19 = .ok (.iload_n 1, 1) := by decide +kernel
theorem dX2_isA_20 : decode cX2_isA 20 = .ok (.iaload, 1) := by decide +kernel
theorem dX2_isA_21 : decode cX2_isA 21 = .ok (.iconst 4, 1) := by decide +kernel
theorem dX2_isA_22 : decode cX2_isA 22 = .ok (.if_icmp .eq 18, 3) := by decide +kernel
theorem dX2_isA_25 : decode cX2_isA 25 = .ok (.iload_n 2, 1) := by decide +kernel
theorem dX2_isA_26 : decode cX2_isA 26 = .ok (.iconst 2, 1) := by decide +kernel
theorem dX2_isA_27 : decode cX2_isA 27 = .ok (.if_icmp .ne 17, 3) := by decide +kernel
theorem dX2_isA_30 : decode cX2_isA 30 = .ok (.aload_n 0, 1) := by decide +kernel
theorem dX2_isA_31 : decode cX2_isA 31 = .ok (.getfield 22, 3) := by decide +kernel
theorem dX2_isA_34 : decode cX2_isA 34 = .ok (.iload_n 1, 1) := by decide +kernel
theorem dX2_isA_35 : decode cX2_isA 35 = .ok (.iaload, 1) := by decide +kernel
theorem dX2_isA_36 : decode cX2_isA 36 = .ok (.iconst 5, 1) := by decide +kernel
theorem dX2_isA_37 : decode cX2_isA 37 = .ok (.if_icmp .ne 7, 3) := by decide +kernel
theorem dX2_isA_40 : decode cX2_isA 40 = .ok (.iconst 1, 1) := by decide +kernel
theorem dX2_isA_41 : decode cX2_isA 41 = .ok (.goto 4, 3) := by decide +kernel
theorem dX2_isA_44 : decode cX2_isA 44 = .ok (.iconst 0, 1) := by decide +kernel
theorem dX2_isA_45 : decode cX2_isA 45 = .ok (.ireturn, 1) := by decide +kernel
theorem dX2_mark_0 : decode cX2_mark 0 = .ok (.aload_n 0, 1) := by decide +kernel
theorem dX2_mark_1 : decode cX2_mark 1 = .ok (.iload_n 1, 1) := by decide +kernel
theorem dX2_mark_2 : decode cX2_mark 2 = .ok (.invokevirtual 145, 3) := by decide +kernel
theorem dX2_mark_5 : decode cX2_mark 5 = .ok (.ifCond .eq 12, 3) := by decide +kernel
theorem dX2_mark_8 : decode cX2_mark 8 = .ok (.iload_n 2, 1) := by decide +kernel
theorem dX2_mark_9 : decode cX2_mark 9 = .ok (.iconst 1, 1) := by decide +kernel
theorem dX2_mark_10 : decode cX2_mark 10 = .ok (.iconst 5, 1) := by decide +kernel
theorem dX2_mark_11 : decode cX2_mark 11 = .ok (.invokestatic 82, 3) := by decide +kernel
theorem dX2_mark_14 : decode cX2_mark 14 = .ok (.ifCond .ne 5, 3) := by decide +kernel
theorem dX2_mark_17 : decode cX2_mark 17 = .ok (.iconst (-1), 1) := by decide +kernel
theorem dX2_mark_18 : decode cX2_mark 18 = .ok (.ireturn, 1) := by decide +kernel
theorem dX2_mark_19 : decode cX2_mark 19 = .ok (.aload_n 0, 1) := by decide +kernel
theorem dX2_mark_20 : decode cX2_mark 20 = .ok (.iload_n 1, 1) := by decide +kernel
theorem dX2_mark_21 : decode cX2_mark 21 = .ok (.iload_n 2, 1) := by decide +kernel
theorem dX2_mark_22 : decode cX2_mark 22 = .ok (.invokevirtual 151, 3) := by decide +kernel
theorem dX2_mark_25 : decode cX2_mark 25 = .ok (.ifCond .ne 9, 3) := by decide +kernel
theorem dX2_mark_28 : decode cX2_mark 28 = .ok (.aload_n 0, 1) := by decide +kernel
theorem dX2_mark_29 : decode cX2_mark 29 = .ok (.iconst 3, 1) := by decide +kernel
theorem dX2_mark_30 : decode cX2_mark 30 = .ok (.invokevirtual 90, 3) := by decide +kernel
theorem dX2_mark_33 : decode cX2_mark 33 = .ok (.ireturn, 1) := by decide +kernel
theorem dX2_mark_34 : decode cX2_mark 34 = .ok (.iload_n 2, 1) := by decide +kernel
theorem dX2_mark_35 : decode cX2_mark 35 = .ok (.tableswitch 134 1 4 #[29, 63, 104, 113], 29) := by decide +kernel
theorem dX2_mark_64 : decode cX2_mark 64 = .ok (.aload_n 0, 1) := by decide +kernel
theorem dX2_mark_65 : decode cX2_mark 65 = .ok (.getfield 28, 3) := by decide +kernel
theorem dX2_mark_68 : decode cX2_mark 68 = .ok (.iload_n 1, 1) := by decide +kernel
theorem dX2_mark_69 : decode cX2_mark 69 = .ok (.iaload, 1) := by decide +kernel
theorem dX2_mark_70 : decode cX2_mark 70 = .ok (.iconst 2, 1) := by decide +kernel
theorem dX2_mark_71 : decode cX2_mark 71 = .ok (.iadd, 1) := by decide +kernel
theorem dX2_mark_72 : decode cX2_mark 72 = .ok (.aload_n 0, 1) := by decide +kernel
theorem dX2_mark_73 : decode cX2_mark 73 = .ok (.getfield 31, 3) := by decide +kernel
theorem dX2_mark_76 : decode cX2_mark 76 = .ok (.iconst 0, 1) := by decide +kernel
theorem dX2_mark_77 : decode cX2_mark 77 = .ok (.iaload, 1) := by decide +kernel
theorem dX2_mark_78 : decode cX2_mark 78 = .ok (.aload_n 0, 1) := by decide +kernel
theorem dX2_mark_79 : decode cX2_mark 79 = .ok (.getfield 28, 3) := by decide +kernel
theorem dX2_mark_82 : decode cX2_mark 82 = .ok (.iload_n 1, 1) := by decide +kernel
theorem dX2_mark_83 : decode cX2_mark 83 = .ok (.iaload, 1) := by decide +kernel
theorem dX2_mark_84 : decode cX2_mark 84 = .ok (.iconst 2, 1) := by decide +kernel
theorem dX2_mark_85 : decode cX2_mark 85 = .ok (.iadd, 1) := by decide +kernel
theorem dX2_mark_86 : decode cX2_mark 86 = .ok (.irem, 1) := by decide +kernel
theorem dX2_mark_87 : decode cX2_mark 87 = .ok (.isub, 1) := by decide +kernel
theorem dX2_mark_88 : decode cX2_mark 88 = .ok (.aload_n 0, 1) := by decide +kernel
theorem dX2_mark_89 : decode cX2_mark 89 = .ok (.getfield 28, 3) := by decide +kernel
theorem dX2_mark_92 : decode cX2_mark 92 = .ok (.iload_n 1, 1) := by decide +kernel
theorem dX2_mark_93 : decode cX2_mark 93 = .ok (.iaload, 1) := by decide +kernel
theorem dX2_mark_94 : decode cX2_mark 94 = .ok (.iconst 2, 1) := by decide +kernel
theorem dX2_mark_95 : decode cX2_mark 95 = .ok (.iadd, 1) := by decide +kernel
theorem dX2_mark_96 : decode cX2_mark 96 = .ok (.irem, 1) := by decide +kernel
theorem dX2_mark_97 : decode cX2_mark 97 = .ok (.ireturn, 1) := by decide +kernel
theorem dX2_mark_98 : decode cX2_mark 98 = .ok (.aload_n 0, 1) := by decide +kernel
theorem dX2_mark_99 : decode cX2_mark 99 = .ok (.aload_n 0, 1) := by decide +kernel
theorem dX2_mark_100 : decode cX2_mark 100 = .ok (.getfield 31, 3) := by decide +kernel
theorem dX2_mark_103 : decode cX2_mark 103 = .ok (.iload_n 1, 1) := by decide +kernel
theorem dX2_mark_104 : decode cX2_mark 104 = .ok (.aload_n 0, 1) := by decide +kernel
theorem dX2_mark_105 : decode cX2_mark 105 = .ok (.getfield 22, 3) := by decide +kernel
theorem dX2_mark_108 : decode cX2_mark 108 = .ok (.iload_n 1, 1) := by decide +kernel
theorem dX2_mark_109 : decode cX2_mark 109 = .ok (.iaload, 1) := by decide +kernel
theorem dX2_mark_110 : decode cX2_mark 110 = .ok (.iconst 0, 1) := by decide +kernel
theorem dX2_mark_111 : decode cX2_mark 111 = .ok (.invokevirtual 138, 3) := by decide +kernel
theorem dX2_mark_114 : decode cX2_mark 114 = .ok (.aload_n 0, 1) := by decide +kernel
theorem dX2_mark_115 : decode cX2_mark 115 = .ok (.aload_n 0, 1) := by decide +kernel
theorem dX2_mark_116 : decode cX2_mark 116 = .ok (.getfield 31, 3) := by decide +kernel
theorem dX2_mark_119 : decode cX2_mark 119 = .ok (.iload_n 1, 1) := by decide +kernel
theorem dX2_mark_120 : decode cX2_mark 120 = .ok (.aload_n 0, 1) := by decide +kernel
theorem dX2_mark_121 : decode cX2_mark 121 = .ok (.getfield 22, 3) := by decide +kernel
theorem dX2_mark_124 : decode cX2_mark 124 = .ok (.iload_n 1, 1) := by decide +kernel
theorem dX2_mark_125 : decode cX2_mark 125 = .ok (.iaload, 1) := by decide +kernel
theorem dX2_mark_126 : decode cX2_mark 126 = .ok (.iconst 1, 1) := by decide +kernel
theorem dX2_mark_127 : decode cX2_mark 127 = .ok (.invokevirtual 138, 3) := by decide +kernel
theorem dX2_mark_130 : decode cX2_mark 130 = .ok (.if_icmp .ne 7, 3) := by decide +kernel
theorem dX2_mark_133 : decode cX2_mark 133 = .ok (.iconst 1, 1) := by decide +kernel
theorem dX2_mark_134 : decode cX2_mark 134 = .ok (.goto 4, 3) := by decide +kernel
theorem dX2_mark_137 : decode cX2_mark 137 = .ok (.iconst 0, 1) := by decide +kernel
theorem dX2_mark_138 : decode cX2_mark 138 = .ok (.ireturn, 1) := by decide +kernel
theorem dX2_mark_139 : decode cX2_mark 139 = .ok (.iconst 2, 1) := by decide +kernel
theorem dX2_mark_140 : decode cX2_mark 140 = .ok (.aload_n 0, 1) := by decide +kernel
theorem dX2_mark_141 : decode cX2_mark 141 = .ok (.getfield 25, 3) := by decide +kernel
theorem dX2_mark_144 : decode cX2_mark 144 = .ok (.iload_n 1, 1) := by decide +kernel
theorem dX2_mark_145 : decode cX2_mark 145 = .ok (.iaload, 1) := by decide +kernel
theorem dX2_mark_146 : decode cX2_mark 146 = .ok (.imul, 1) := by decide +kernel
theorem dX2_mark_147 : decode cX2_mark 147 = .ok (.ireturn, 1) := by decide +kernel
theorem dX2_mark_148 : decode cX2_mark 148 = .ok (.aload_n 0, 1) := by decide +kernel
theorem dX2_mark_149 : decode cX2_mark 149 = .ok (.iload_n 1, 1) := by decide +kernel
theorem dX2_mark_150 : decode cX2_mark 150 = .ok (.iconst 4, 1) := by decide +kernel
theorem dX2_mark_151 : decode cX2_mark 151 = .ok (.invokevirtual 148, 3) := by decide +kernel
theorem dX2_mark_154 : decode cX2_mark 154 = .ok (.aload_n 0, 1) := by decide +kernel
theorem dX2_mark_155 : decode cX2_mark 155 = .ok (.iload_n 1, 1) := by decide +kernel
theorem dX2_mark_156 : decode cX2_mark 156 = .ok (.iconst 1, 1) := by decide +kernel
theorem dX2_mark_157 : decode cX2_mark 157 = .ok (.invokevirtual 148, 3) := by decide +kernel
theorem dX2_mark_160 : decode cX2_mark 160 = .ok (.if_icmp .eq 7, 3) := by decide +kernel
theorem dX2_mark_163 : decode cX2_mark 163 = .ok (.iconst 1, 1) := by decide +kernel
theorem dX2_mark_164 : decode cX2_mark 164 = .ok (.goto 4, 3) := by decide +kernel
theorem dX2_mark_167 : decode cX2_mark 167 = .ok (.iconst 0, 1) := by decide +kernel
theorem dX2_mark_168 : decode cX2_mark 168 = .ok (.ireturn, 1) := by decide +kernel
theorem dX2_mark_169 : decode cX2_mark 169 = .ok (.aload_n 0, 1) := by decide +kernel
theorem dX2_mark_170 : decode cX2_mark 170 = .ok (.iload_n 1, 1) := by decide +kernel
theorem dX2_mark_171 : decode cX2_mark 171 = .ok (.iconst 5, 1) := by decide +kernel
theorem dX2_mark_172 : decode cX2_mark 172 = .ok (.invokevirtual 148, 3) := by decide +kernel
theorem dX2_mark_175 : decode cX2_mark 175 = .ok (.aload_n 0, 1) := by decide +kernel
theorem dX2_mark_176 : decode cX2_mark 176 = .ok (.iload_n 1, 1) := by decide +kernel
theorem dX2_mark_177 : decode cX2_mark 177 = .ok (.iconst 2, 1) := by decide +kernel
theorem dX2_mark_178 : decode cX2_mark 178 = .ok (.invokevirtual 148, 3) := by decide +kernel
theorem dX2_mark_181 : decode cX2_mark 181 = .ok (.if_icmp .eq 7, 3) := by decide +kernel
theorem dX2_mark_184 : decode cX2_mark 184 = .ok (.iconst 1, 1) := by decide +kernel
theorem dX2_mark_185 : decode cX2_mark 185 = .ok (.goto 4, 3) := by decide +kernel
theorem dX2_mark_188 : decode cX2_mark 188 = .ok (.iconst 0, 1) := by decide +kernel
theorem dX2_mark_189 : decode cX2_mark 189 = .ok (.ireturn, 1) := by decide +kernel
theorem dX2_notes_0 : decode cX2_notes 0 = .ok (.aload_n 0, 1) := by decide +kernel
theorem dX2_notes_1 : decode cX2_notes 1 = .ok (.getfield 31, 3) := by decide +kernel
theorem dX2_notes_4 : decode cX2_notes 4 = .ok (.iconst 0, 1) := by decide +kernel
