theorem dX1_init_0 : decode cX1_init 0 = .ok (.aload_n 0, 1) := by decide +kernel
theorem dX1_init_1 : decode cX1_init 1 = .ok (.invokespecial 1, 3) := by decide +kernel
theorem dX1_init_4 : decode cX1_init 4 = .ok (.aload_n 0, 1) := by decide +kernel
theorem dX1_init_5 : decode cX1_init 5 = .ok (.bipush 6, 2) := by decide +kernel
theorem dX1_init_7 : decode cX1_init 7 = .ok (.bipush 40, 2) := by decide +kernel
theorem dX1_init_9 : decode cX1_init 9 = .ok (.multianewarray 9 2, 4) := by decide +kernel
theorem dX1_init_13 : decode cX1_init 13 = .ok (.putfield 11, 3) := by decide +kernel
theorem dX1_init_16 : decode cX1_init 16 = .ok (.aload_n 0, 1) := by decide +kernel
theorem dX1_init_17 : decode cX1_init 17 = .ok (.bipush 6, 2) := by decide +kernel
theorem dX1_init_19 : decode cX1_init 19 = .ok (.newarray .int, 2) := by decide +kernel
theorem dX1_init_21 : decode cX1_init 21 = .ok (.dup, 1) := by decide +kernel
theorem dX1_init_22 : decode cX1_init 22 = .ok (.iconst 0, 1) := by decide +kernel
theorem dX1_init_23 : decode cX1_init 23 = .ok (.iconst (-1), 1) := by decide +kernel
theorem dX1_init_24 : decode cX1_init 24 = .ok (.iastore, 1) := by decide +kernel
theorem dX1_init_25 : decode cX1_init 25 = .ok (.dup, 1) := by decide +kernel
theorem dX1_init_26 : decode cX1_init 26 = .ok (.iconst 1, 1) := by decide +kernel
theorem dX1_init_27 : decode cX1_init 27 = .ok (.iconst (-1), 1) := by decide +kernel
theorem dX1_init_28 : decode cX1_init 28 = .ok (.iastore, 1) := by decide +kernel
theorem dX1_init_29 : decode cX1_init 29 = .ok (.dup, 1) := by decide +kernel
theorem dX1_init_30 : decode cX1_init 30 = .ok (.iconst 2, 1) := by decide +kernel
theorem dX1_init_31 : decode cX1_init 31 = .ok (.iconst (-1), 1) := by decide +kernel
theorem dX1_init_32 : decode cX1_init 32 = .ok (.iastore, 1) := by decide +kernel
theorem dX1_init_33 : decode cX1_init 33 = .ok (.dup, 1) := by decide +kernel
theorem dX1_init_34 : decode cX1_init 34 = .ok (.iconst 3, 1) := by decide +kernel
theorem dX1_init_35 : decode cX1_init 35 = .ok (.iconst (-1), 1) := by decide +kernel
theorem dX1_init_36 : decode cX1_init 36 = .ok (.iastore, 1) := by decide +kernel
theorem dX1_init_37 : decode cX1_init 37 = .ok (.dup, 1) := by decide +kernel
theorem dX1_init_38 : decode cX1_init 38 = .ok (.iconst 4, 1) := by decide +kernel
theorem dX1_init_39 : decode cX1_init 39 = .ok (.iconst (-1), 1) := by decide +kernel
theorem dX1_init_40 : decode cX1_init 40 = .ok (.iastore, 1) := by decide +kernel
theorem dX1_init_41 : decode cX1_init 41 = .ok (.dup, 1) := by decide +kernel
theorem dX1_init_42 : decode cX1_init 42 = .ok (.iconst 5, 1) := by decide +kernel
theorem dX1_init_43 : decode cX1_init 43 = .ok (.iconst (-1), 1) := by decide +kernel
theorem dX1_init_44 : decode cX1_init 44 = .ok (.iastore, 1) := by decide +kernel
theorem dX1_init_45 : decode cX1_init 45 = .ok (.putfield 14, 3) := by decide +kernel
theorem dX1_init_48 : decode cX1_init 48 = .ok (.aload_n 0, 1) := by decide +kernel
theorem dX1_init_49 : decode cX1_init 49 = .ok (.iconst 4, 1) := by decide +kernel
theorem dX1_init_50 : decode cX1_init 50 = .ok (.bipush 60, 2) := by decide +kernel
theorem dX1_init_52 : decode cX1_init 52 = .ok (.multianewarray 18 2, 4) := by decide +kernel
theorem dX1_init_56 : decode cX1_init 56 = .ok (.putfield 20, 3) := by decide +kernel
theorem dX1_init_59 : decode cX1_init 59 = .ok (.aload_n 0, 1) := by decide +kernel
theorem dX1_init_60 : decode cX1_init 60 = .ok (.iconst 4, 1) := by decide +kernel
theorem dX1_init_61 : decode cX1_init 61 = .ok (.newarray .int, 2) := by decide +kernel
theorem dX1_init_63 : decode cX1_init 63 = .ok (.dup, 1) := by decide +kernel
theorem dX1_init_64 : decode cX1_init 64 = .ok (.iconst 0, 1) := by decide +kernel
theorem dX1_init_65 : decode cX1_init 65 = .ok (.iconst (-1), 1) := by decide +kernel
theorem dX1_init_66 : decode cX1_init 66 = .ok (.iastore, 1) := by decide +kernel
theorem dX1_init_67 : decode cX1_init 67 = .ok (.dup, 1) := by decide +kernel
theorem dX1_init_68 : decode cX1_init 68 = .ok (.iconst 1, 1) := by decide +kernel
theorem dX1_init_69 : decode cX1_init 69 = .ok (.iconst (-1), 1) := by decide +kernel
theorem dX1_init_70 : decode cX1_init 70 = .ok (.iastore, 1) := by decide +kernel
theorem dX1_init_71 : decode cX1_init 71 = .ok (.dup, 1) := by decide +kernel
theorem dX1_init_72 : decode cX1_init 72 = .ok (.iconst 2, 1) := by decide +kernel
theorem dX1_init_73 : decode cX1_init 73 = .ok (.iconst (-1), 1) := by decide +kernel
theorem dX1_init_74 : decode cX1_init 74 = .ok (.iastore, 1) := by decide +kernel
theorem dX1_init_75 : decode cX1_init 75 = .ok (.dup, 1) := by decide +kernel
theorem dX1_init_76 : decode cX1_init 76 = .ok (.iconst 3, 1) := by decide +kernel
theorem dX1_init_77 : decode cX1_init 77 = .ok (.iconst (-1), 1) := by decide +kernel
theorem dX1_init_78 : decode cX1_init 78 = .ok (.iastore, 1) := by decide +kernel
theorem dX1_init_79 : decode cX1_init 79 = .ok (.putfield 23, 3) := by decide +kernel
theorem dX1_init_82 : decode cX1_init 82 = .ok (.aload_n 0, 1) := by decide +kernel
theorem dX1_init_83 : decode cX1_init 83 = .ok (.new 26, 3) := by decide +kernel
theorem dX1_init_86 : decode cX1_init 86 = .ok (.dup, 1) := by decide +kernel
theorem dX1_init_87 : decode cX1_init 87 = .ok (.invokespecial 28, 3) := by decide +kernel
theorem dX1_init_90 : decode cX1_init 90 = .ok (.putfield 29, 3) := by decide +kernel
theorem dX1_init_93 : decode cX1_init 93 = .ok (.aload_n 0, 1) := by decide +kernel
theorem dX1_init_94 : decode cX1_init 94 = .ok (.new 26, 3) := by decide +kernel
theorem dX1_init_97 : decode cX1_init 97 = .ok (.dup, 1) := by decide +kernel
theorem dX1_init_98 : decode cX1_init 98 = .ok (.invokespecial 28, 3) := by decide +kernel
theorem dX1_init_101 : decode cX1_init 101 = .ok (.putfield 33, 3) := by decide +kernel
theorem dX1_init_104 : decode cX1_init 104 = .ok (.aload_n 0, 1) := by decide +kernel
theorem dX1_init_105 : decode cX1_init 105 = .ok (.bipush 40, 2) := by decide +kernel
theorem dX1_init_107 : decode cX1_init 107 = .ok (.newarray .int, 2) := by decide +kernel
theorem dX1_init_109 : decode cX1_init 109 = .ok (.putfield 36, 3) := by decide +kernel
theorem dX1_init_112 : decode cX1_init 112 = .ok (.aload_n 0, 1) := by decide +kernel
theorem dX1_init_113 : decode cX1_init 113 = .ok (.iconst 0, 1) := by decide +kernel
theorem dX1_init_114 : decode cX1_init 114 = .ok (.putfield 39, 3) := by decide +kernel
theorem dX1_init_117 : decode cX1_init 117 = .ok (.aload_n 0, 1) := by decide +kernel
theorem dX1_init_118 : decode cX1_init 118 = .ok (.iconst 3, 1) := by decide +kernel
theorem dX1_init_119 : decode cX1_init 119 = .ok (.bipush 40, 2) := by decide +kernel
theorem dX1_init_121 : decode cX1_init 121 = .ok (.multianewarray 9 2, 4) := by decide +kernel
theorem dX1_init_125 : decode cX1_init 125 = .ok (.putfield 43, 3) := by decide +kernel
theorem dX1_init_128 : decode cX1_init 128 = .ok (.aload_n 0, 1) := by decide +kernel
theorem dX1_init_129 : decode cX1_init 129 = .ok (.iconst 3, 1) := by decide +kernel
theorem dX1_init_130 : decode cX1_init 130 = .ok (.newarray .int, 2) := by decide +kernel
theorem dX1_init_132 : decode cX1_init 132 = .ok (.dup, 1) := by decide +kernel
theorem dX1_init_133 : decode cX1_init 133 = .ok (.iconst 0, 1) := by decide +kernel
theorem dX1_init_134 : decode cX1_init 134 = .ok (.iconst (-1), 1) := by decide +kernel
theorem dX1_init_135 : decode cX1_init 135 = .ok (.iastore, 1) := by decide +kernel
theorem dX1_init_136 : decode cX1_init 136 = .ok (.dup, 1) := by decide +kernel
theorem dX1_init_137 : decode cX1_init 137 = .ok (.iconst 1, 1) := by decide +kernel
theorem dX1_init_138 : decode cX1_init 138 = .ok (.iconst (-1), 1) := by decide +kernel
theorem dX1_init_139 : decode cX1_init 139 = .ok (.iastore, 1) := by decide +kernel
theorem dX1_init_140 : decode cX1_init 140 = .ok (.dup, 1) := by decide +kernel
theorem dX1_init_141 : decode cX1_init 141 = .ok (.iconst 2, 1) := by decide +kernel
theorem dX1_init_142 : decode cX1_init 142 = .ok (.iconst (-1), 1) := by decide +kernel
theorem dX1_init_143 : decode cX1_init 143 = .ok (.iastore, 1) := by decide +kernel
theorem dX1_init_144 : decode cX1_init 144 = .ok (.putfield 46, 3) := by decide +kernel
theorem dX1_init_147 : decode cX1_init 147 = .ok (.aload_n 0, 1) := by decide +kernel
theorem dX1_init_148 : decode cX1_init 148 = .ok (.bipush 6, 2) := by decide +kernel
theorem dX1_init_150 : decode cX1_init 150 = .ok (.bipush 20, 2) := by decide +kernel
theorem dX1_init_152 : decode cX1_init 152 = .ok (.multianewarray 9 2, 4) := by decide +kernel
theorem dX1_init_156 : decode cX1_init 156 = .ok (.putfield 49, 3) := by decide +kernel
theorem dX1_init_159 : decode cX1_init 159 = .ok (.aload_n 0, 1) := by decide +kernel
theorem dX1_init_160 : decode cX1_init 160 = .ok (.bipush 6, 2) := by decide +kernel
theorem dX1_init_162 : decode cX1_init 162 = .ok (.newarray .int, 2) := by decide +kernel
theorem dX1_init_164 : decode cX1_init 164 = .ok (.putfield 52, 3) := by decide +kernel
theorem dX1_init_167 : decode cX1_init 167 = .ok (.aload_n 0, 1) := by decide +kernel
theorem dX1_init_168 : decode cX1_init 168 = .ok (.iconst 0, 1) := by decide +kernel
theorem dX1_init_169 : decode cX1_init 169 = .ok (.putfield 55, 3) := by decide +kernel
theorem dX1_init_172 : decode cX1_init 172 = .ok (.aload_n 0, 1) := by decide +kernel
theorem dX1_init_173 : decode cX1_init 173 = .ok (.iconst 0, 1) := by decide +kernel
theorem dX1_init_174 : decode cX1_init 174 = .ok (.putfield 58, 3) := by decide +kernel
theorem dX1_init_177 : decode cX1_init 177 = .ok (.aload_n 0, 1) := by decide +kernel
theorem dX1_init_178 : decode cX1_init 178 = .ok (.lconst 0, 1) := by decide +kernel
theorem dX1_init_179 : decode cX1_init 179 = .ok (.putfield 61, 3) := by decide +kernel
theorem dX1_init_182 : decode cX1_init 182 = .ok (.aload_n 0, 1) := by decide +kernel
theorem dX1_init_183 : decode cX1_init 183 = .ok (.lconst 1, 1) := by decide +kernel
theorem dX1_init_184 : decode cX1_init 184 = .ok (.putfield 65, 3) := by decide +kernel
theorem dX1_init_187 : decode cX1_init 187 = .ok (.return_, 1) := by decide +kernel
theorem dX1_row_0 : decode cX1_row 0 = .ok (.iload_n 1, 1) := by decide +kernel
theorem dX1_row_1 : decode cX1_row 1 = .ok (.invokestatic 68, 3) := by decide +kernel
theorem dX1_row_4 : decode cX1_row 4 = .ok (.ifCond .eq 9, 3) := by decide +kernel
theorem dX1_row_7 : decode cX1_row 7 = .ok (.iload_n 2, 1) := by decide +kernel
theorem dX1_row_8 : decode cX1_row 8 = .ok (.bipush 40, 2) := by decide +kernel
theorem dX1_row_10 : decode cX1_row 10 = .ok (.if_icmp .le 5, 3) := by decide +kernel
theorem dX1_row_13 : decode cX1_row 13 = .ok (.iconst (-1), 1) := by decide +kernel
theorem dX1_row_14 : decode cX1_row 14 = .ok (.ireturn, 1) := by decide +kernel
theorem dX1_row_15 : decode cX1_row 15 = .ok (.iload_n 2, 1) := by decide +kernel
theorem dX1_row_16 : decode cX1_row 16 = .ok (.ifCond .ge 9, 3) := by decide +kernel
theorem dX1_row_19 : decode cX1_row 19 = .ok (.aload_n 0, 1) := by decide +kernel
theorem dX1_row_20 : decode cX1_row 20 = .ok (.iconst 5, 1) := by decide +kernel
theorem dX1_row_21 : decode cX1_row 21 = .ok (.invokevirtual 72, 3) := by decide +kernel
theorem dX1_row_24 : decode cX1_row 24 = .ok (.ireturn, 1) := by decide +kernel
theorem dX1_row_25 : decode cX1_row 25 = .ok (.aload_n 0, 1) := by decide +kernel
theorem dX1_row_26 : decode cX1_row 26 = .ok (.iload_n 1, 1) := by decide +kernel
theorem dX1_row_27 : decode cX1_row 27 = .ok (.iload_n 2, 1) := by decide +kernel
theorem dX1_row_28 : decode cX1_row 28 = .ok (.invokevirtual 76, 3) := by decide +kernel
theorem dX1_row_31 : decode cX1_row 31 = .ok (.iload_n 2, 1) := by decide +kernel
theorem dX1_row_32 : decode cX1_row 32 = .ok (.ireturn, 1) := by decide +kernel
theorem dX1_lay_0 : decode cX1_lay 0 = .ok (.iload_n 1, 1) := by decide +kernel
theorem dX1_lay_1 : decode cX1_lay 1 = .ok (.invokestatic 68, 3) := by decide +kernel
theorem dX1_lay_4 : decode cX1_lay 4 = .ok (.ifCond .ne 5, 3) := by decide +kernel
theorem dX1_lay_7 : decode cX1_lay 7 = .ok (.iconst (-1), 1) := by decide +kernel
theorem dX1_lay_8 : decode cX1_lay 8 = .ok (.ireturn, 1) := by decide +kernel
theorem dX1_lay_9 : decode cX1_lay 9 = .ok (.iload_n 2, 1) := by decide +kernel
theorem dX1_lay_10 : decode cX1_lay 10 = .ok (.aload_n 0, 1) := by decide +kernel
theorem dX1_lay_11 : decode cX1_lay 11 = .ok (.getfield 14, 3) := by decide +kernel
theorem dX1_lay_14 : decode cX1_lay 14 = .ok (.iload_n 1, 1) := by decide +kernel
theorem dX1_lay_15 : decode cX1_lay 15 = .ok (.iaload, 1) := by decide +kernel
theorem dX1_lay_16 : decode cX1_lay 16 = .ok (.invokestatic 80, 3) := by decide +kernel
theorem dX1_lay_19 : decode cX1_lay 19 = .ok (.istore 4, 2) := by decide +kernel
theorem dX1_lay_21 : decode cX1_lay 21 = .ok (.iload 4, 2) := by decide +kernel
theorem dX1_lay_23 : decode cX1_lay 23 = .ok (.ifCond .eq 10, 3) := by decide +kernel
theorem dX1_lay_26 : decode cX1_lay 26 = .ok (.aload_n 0, 1) := by decide +kernel
theorem dX1_lay_27 : decode cX1_lay 27 = .ok (.iload 4, 2) := by decide +kernel
theorem dX1_lay_29 : decode cX1_lay 29 = .ok (.invokevirtual 72, 3) := by decide +kernel
theorem dX1_lay_32 : decode cX1_lay 32 = .ok (.ireturn, 1) := by decide +kernel
theorem dX1_lay_33 : decode cX1_lay 33 = .ok (.aload_n 0, 1) := by decide +kernel
theorem dX1_lay_34 : decode cX1_lay 34 = .ok (.aload_n 0, 1) := by decide +kernel
theorem dX1_lay_35 : decode cX1_lay 35 = .ok (.getfield 11, 3) := by decide +kernel
theorem dX1_lay_38 : decode cX1_lay 38 = .ok (.iload_n 1, 1) := by decide +kernel
theorem dX1_lay_39 : decode cX1_lay 39 = .ok (.aaload, 1) := by decide +kernel
theorem dX1_lay_40 : decode cX1_lay 40 = .ok (.iload_n 2, 1) := by decide +kernel
theorem dX1_lay_41 : decode cX1_lay 41 = .ok (.iaload, 1) := by decide +kernel
theorem dX1_lay_42 : decode cX1_lay 42 = .ok (.putfield 58, 3) := by decide +kernel
theorem dX1_lay_45 : decode cX1_lay 45 = .ok (.aload_n 0, 1) := by decide +kernel
theorem dX1_lay_46 : decode cX1_lay 46 = .ok (.getfield 11, 3) := by decide +kernel
theorem dX1_lay_49 : decode cX1_lay 49 = .ok (.iload_n 1, 1) := by decide +kernel
theorem dX1_lay_50 : decode cX1_lay 50 = .ok (.aaload, 1) := by decide +kernel
theorem dX1_lay_51 : decode cX1_lay 51 = .ok (.iload_n 2, 1) := by decide +kernel
theorem dX1_lay_52 : decode cX1_lay 52 = .ok (.iload_n 3, 1) := by decide +kernel
theorem dX1_lay_53 : decode cX1_lay 53 = .ok (.iastore, 1) := by decide +kernel
theorem dX1_lay_54 : decode cX1_lay 54 = .ok (.iconst 1, 1) := by decide +kernel
theorem dX1_lay_55 : decode cX1_lay 55 = .ok (.ireturn, 1) := by decide +kernel
theorem dX1_at_0 : decode cX1_at 0 = .ok (.iload_n 1, 1) := by decide +kernel
theorem dX1_at_1 : decode cX1_at 1 = .ok (.invokestatic 68, 3) := by decide +kernel
theorem dX1_at_4 : decode cX1_at 4 = .ok (.ifCond .ne 5, 3) := by decide +kernel
theorem dX1_at_7 : decode cX1_at 7 = .ok (.iconst (-1), 1) := by decide +kernel
theorem dX1_at_8 : decode cX1_at 8 = .ok (.ireturn, 1) := by decide +kernel
theorem dX1_at_9 : decode cX1_at 9 = .ok (.iload_n 2, 1) := by decide +kernel
theorem dX1_at_10 : decode cX1_at 10 = .ok (.aload_n 0, 1) := by decide +kernel
theorem dX1_at_11 : decode cX1_at 11 = .ok (.getfield 14, 3) := by decide +kernel
theorem dX1_at_14 : decode cX1_at 14 = .ok (.iload_n 1, 1) := by decide +kernel
theorem dX1_at_15 : decode cX1_at 15 = .ok (.iaload, 1) := by decide +kernel
theorem dX1_at_16 : decode cX1_at 16 = .ok (.invokestatic 80, 3) := by decide +kernel
theorem dX1_at_19 : decode cX1_at 19 = .ok (.istore_n 3, 1) := by decide +kernel
theorem dX1_at_20 : decode cX1_at 20 = .ok (.iload_n 3, 1) := by decide +kernel
theorem dX1_at_21 : decode cX1_at 21 = .ok (.ifCond .eq 9, 3) := by decide +kernel
theorem dX1_at_24 : decode cX1_at 24 = .ok (.aload_n 0, 1) := by decide +kernel
theorem dX1_at_25 : decode cX1_at 25 = .ok (.iload_n 3, 1) := by decide +kernel
theorem dX1_at_26 : decode cX1_at 26 = .ok (.invokevirtual 72, 3) := by decide +kernel
theorem dX1_at_29 : decode cX1_at 29 = .ok (.ireturn, 1) := by decide +kernel
theorem dX1_at_30 : decode cX1_at 30 = .ok (.aload_n 0, 1) := by decide +kernel
theorem dX1_at_31 : decode cX1_at 31 = .ok (.aload_n 0, 1) := by decide +kernel
theorem dX1_at_32 : decode cX1_at 32 = .ok (.getfield 11, 3) := by decide +kernel
theorem dX1_at_35 : decode cX1_at 35 = .ok (.iload_n 1, 1) := by decide +kernel
theorem dX1_at_36 : decode cX1_at 36 = .ok (.aaload, 1) := by decide +kernel
theorem dX1_at_37 : decode cX1_at 37 = .ok (.iload_n 2, 1) := by decide +kernel
theorem dX1_at_38 : decode cX1_at 38 = .ok (.iaload, 1) := by decide +kernel
theorem dX1_at_39 : decode cX1_at 39 = .ok (.putfield 58, 3) := by decide +kernel
theorem dX1_at_42 : decode cX1_at 42 = .ok (.iconst 1, 1) := by decide +kernel
theorem dX1_at_43 : decode cX1_at 43 = .ok (.ireturn, 1) := by decide +kernel
theorem dX1_tear_0 : decode cX1_tear 0 = .ok (.iload_n 1, 1) := by decide +kernel
theorem dX1_tear_1 : decode cX1_tear 1 = .ok (.invokestatic 68, 3) := by decide +kernel
theorem dX1_tear_4 : decode cX1_tear 4 = .ok (.ifCond .ne 5, 3) := by decide +kernel
theorem dX1_tear_7 : decode cX1_tear 7 = .ok (.iconst (-1), 1) := by decide +kernel
theorem dX1_tear_8 : decode cX1_tear 8 = .ok (.ireturn, 1) := by decide +kernel
theorem dX1_tear_9 : decode cX1_tear 9 = .ok (.aload_n 0, 1) := by decide +kernel
theorem dX1_tear_10 : decode cX1_tear 10 = .ok (.getfield 14, 3) := by decide +kernel
theorem dX1_tear_13 : decode cX1_tear 13 = .ok (.iload_n 1, 1) := by decide +kernel
theorem dX1_tear_14 : decode cX1_tear 14 = .ok (.iaload, 1) := by decide +kernel
theorem dX1_tear_15 : decode cX1_tear 15 = .ok (.iconst (-1), 1) := by decide +kernel
theorem dX1_tear_16 : decode cX1_tear 16 = .ok (.if_icmp .ne 9, 3) := by decide +kernel
theorem dX1_tear_19 : decode cX1_tear 19 = .ok (.aload_n 0, 1) := by decide +kernel
theorem dX1_tear_20 : decode cX1_tear 20 = .ok (.iconst 1, 1) := by decide +kernel
theorem dX1_tear_21 : decode cX1_tear 21 = .ok (.invokevirtual 72, 3) := by decide +kernel
theorem dX1_tear_24 : decode cX1_tear 24 = .ok (.ireturn, 1) := by decide +kernel
theorem dX1_tear_25 : decode cX1_tear 25 = .ok (.aload_n 0, 1) := by decide +kernel
theorem dX1_tear_26 : decode cX1_tear 26 = .ok (.getfield 14, 3) := by decide +kernel
theorem dX1_tear_29 : decode cX1_tear 29 = .ok (.iload_n 1, 1) := by decide +kernel
theorem dX1_tear_30 : decode cX1_tear 30 = .ok (.iconst (-1), 1) := by decide +kernel
theorem dX1_tear_31 : decode cX1_tear 31 = .ok (.iastore, 1) := by decide +kernel
theorem dX1_tear_32 : decode cX1_tear 32 = .ok (.iconst 1, 1) := by decide +kernel
theorem dX1_tear_33 : decode cX1_tear 33 = .ok (.ireturn, 1) := by decide +kernel
theorem dX1_copy_0 : decode cX1_copy 0 = .ok (.iload_n 1, 1) := by decide +kernel
theorem dX1_copy_1 : decode cX1_copy 1 = .ok (.invokestatic 68, 3) := by decide +kernel
theorem dX1_copy_4 : decode cX1_copy 4 = .ok (.ifCond .eq 10, 3) := by decide +kernel
theorem dX1_copy_7 : decode cX1_copy 7 = .ok (.iload_n 3, 1) := by decide +kernel
theorem dX1_copy_8 : decode cX1_copy 8 = .ok (.invokestatic 68, 3) := by decide +kernel
theorem dX1_copy_11 : decode cX1_copy 11 = .ok (.ifCond .ne 5, 3) := by decide +kernel
theorem dX1_copy_14 : decode cX1_copy 14 = .ok (.iconst (-1), 1) := by decide +kernel
theorem dX1_copy_15 : decode cX1_copy 15 = .ok (.ireturn, 1) := by decide +kernel
theorem dX1_copy_16 : decode cX1_copy 16 = .ok (.iload 5, 2) := by decide +kernel
theorem dX1_copy_18 : decode cX1_copy 18 = .ok (.ifCond .ge 9, 3) := by decide +kernel
theorem dX1_copy_21 : decode cX1_copy 21 = .ok (.aload_n 0, 1) := by decide +kernel
theorem dX1_copy_22 : decode cX1_copy 22 = .ok (.iconst 5, 1) := by decide +kernel
theorem dX1_copy_23 : decode cX1_copy 23 = .ok (.invokevirtual 72, 3) := by decide +kernel
theorem dX1_copy_26 : decode cX1_copy 26 = .ok (.ireturn, 1) := by decide +kernel
theorem dX1_copy_27 : decode cX1_copy 27 = .ok (.aload_n 0, 1) := by decide +kernel
theorem dX1_copy_28 : decode cX1_copy 28 = .ok (.getfield 14, 3) := by decide +kernel
theorem dX1_copy_31 : decode cX1_copy 31 = .ok (.iload_n 1, 1) := by decide +kernel
theorem dX1_copy_32 : decode cX1_copy 32 = .ok (.iaload, 1) := by decide +kernel
theorem dX1_copy_33 : decode cX1_copy 33 = .ok (.iconst (-1), 1) := by decide +kernel
theorem dX1_copy_34 : decode cX1_copy 34 = .ok (.if_icmp .eq 13, 3) := by decide +kernel
theorem dX1_copy_37 : decode cX1_copy 37 = .ok (.aload_n 0, 1) := by decide +kernel
theorem dX1_copy_38 : decode cX1_copy 38 = .ok (.getfield 14, 3) := by decide +kernel
theorem dX1_copy_41 : decode cX1_copy 41 = .ok (.iload_n 3, 1) := by decide +kernel
theorem dX1_copy_42 : decode cX1_copy 42 = .ok (.iaload, 1) := by decide +kernel
theorem dX1_copy_43 : decode cX1_copy 43 = .ok (.iconst (-1), 1) := by decide +kernel
theorem dX1_copy_44 : decode cX1_copy 44 = .ok (.if_icmp .ne 9, 3) := by decide +kernel
theorem dX1_copy_47 : decode cX1_copy 47 = .ok (.aload_n 0, 1) := by decide +kernel
theorem dX1_copy_48 : decode cX1_copy 48 = .ok (.iconst 1, 1) := by decide +kernel
theorem dX1_copy_49 : decode cX1_copy 49 = .ok (.invokevirtual 72, 3) := by decide +kernel
theorem dX1_copy_52 : decode cX1_copy 52 = .ok (.ireturn, 1) := by decide +kernel
theorem dX1_copy_53 : decode cX1_copy 53 = .ok (.iload_n 2, 1) := by decide +kernel
theorem dX1_copy_54 : decode cX1_copy 54 = .ok (.iload 5, 2) := by decide +kernel
theorem dX1_copy_56 : decode cX1_copy 56 = .ok (.aload_n 0, 1) := by decide +kernel
theorem dX1_copy_57 : decode cX1_copy 57 = .ok (.getfield 14, 3) := by decide +kernel
theorem dX1_copy_60 : decode cX1_copy 60 = .ok (.iload_n 1, 1) := by decide +kernel
theorem dX1_copy_61 : decode cX1_copy 61 = .ok (.iaload, 1) := by decide +kernel
theorem dX1_copy_62 : decode cX1_copy 62 = .ok (.invokestatic 84, 3) := by decide +kernel
theorem dX1_copy_65 : decode cX1_copy 65 = .ok (.ifCond .eq 19, 3) := by decide +kernel
theorem dX1_copy_68 : decode cX1_copy 68 = .ok (.iload 4, 2) := by decide +kernel
theorem dX1_copy_70 : decode cX1_copy 70 = .ok (.iload 5, 2) := by decide +kernel
theorem dX1_copy_72 : decode cX1_copy 72 = .ok (.aload_n 0, 1) := by decide +kernel
theorem dX1_copy_73 : decode cX1_copy 73 = .ok (.getfield 14, 3) := by decide +kernel
theorem dX1_copy_76 : decode cX1_copy 76 = .ok (.iload_n 3, 1) := by decide +kernel
theorem dX1_copy_77 : decode cX1_copy 77 = .ok (.iaload, 1) := by decide +kernel
theorem dX1_copy_78 : decode cX1_copy 78 = .ok (.invokestatic 84, 3) := by decide +kernel
theorem dX1_copy_81 : decode cX1_copy 81 = .ok (.ifCond .ne 9, 3) := by decide +kernel
theorem dX1_copy_84 : decode cX1_copy 84 = .ok (.aload_n 0, 1) := by decide +kernel
theorem dX1_copy_85 : decode cX1_copy 85 = .ok (.iconst 2, 1) := by decide +kernel
theorem dX1_copy_86 : decode cX1_copy 86 = .ok (.invokevirtual 72, 3) := by decide +kernel
theorem dX1_copy_89 : decode cX1_copy 89 = .ok (.ireturn, 1) := by decide +kernel
theorem dX1_copy_90 : decode cX1_copy 90 = .ok (.aload_n 0, 1) := by decide +kernel
theorem dX1_copy_91 : decode cX1_copy 91 = .ok (.getfield 11, 3) := by decide +kernel
theorem dX1_copy_94 : decode cX1_copy 94 = .ok (.iload_n 1, 1) := by decide +kernel
theorem dX1_copy_95 : decode cX1_copy 95 = .ok (.aaload, 1) := by decide +kernel
theorem dX1_copy_96 : decode cX1_copy 96 = .ok (.iload_n 2, 1) := by decide +kernel
theorem dX1_copy_97 : decode cX1_copy 97 = .ok (.aload_n 0, 1) := by decide +kernel
theorem dX1_copy_98 : decode cX1_copy 98 = .ok (.getfield 11, 3) := by decide +kernel
theorem dX1_copy_101 : decode cX1_copy 101 = .ok (.iload_n 3, 1) := by decide +kernel
theorem dX1_copy_102 : decode cX1_copy 102 = .ok (.aaload, 1) := by decide +kernel
theorem dX1_copy_103 : decode cX1_copy 103 = .ok (.iload 4, 2) := by decide +kernel
theorem dX1_copy_105 : decode cX1_copy 105 = .ok (.iload 5, 2) := by decide +kernel
theorem dX1_copy_107 : decode cX1_copy 107 = .ok (.invokestatic 88, 3) := by decide +kernel
theorem dX1_copy_110 : decode cX1_copy 110 = .ok (.iconst 1, 1) := by decide +kernel
theorem dX1_copy_111 : decode cX1_copy 111 = .ok (.ireturn, 1) := by decide +kernel
theorem dX1_mean_0 : decode cX1_mean 0 = .ok (.iload_n 1, 1) := by decide +kernel
theorem dX1_mean_1 : decode cX1_mean 1 = .ok (.invokestatic 68, 3) := by decide +kernel
theorem dX1_mean_4 : decode cX1_mean 4 = .ok (.ifCond .ne 5, 3) := by decide +kernel
theorem dX1_mean_7 : decode cX1_mean 7 = .ok (.iconst (-1), 1) := by decide +kernel
theorem dX1_mean_8 : decode cX1_mean 8 = .ok (.ireturn, 1) := by decide +kernel
theorem dX1_mean_9 : decode cX1_mean 9 = .ok (.aload_n 0, 1) := by decide +kernel
theorem dX1_mean_10 : decode cX1_mean 10 = .ok (.getfield 14, 3) := by decide +kernel
theorem dX1_mean_13 : decode cX1_mean 13 = .ok (.iload_n 1, 1) := by decide +kernel
theorem dX1_mean_14 : decode cX1_mean 14 = .ok (.iaload, 1) := by decide +kernel
theorem dX1_mean_15 : decode cX1_mean 15 = .ok (.istore_n 2, 1) := by decide +kernel
theorem dX1_mean_16 : decode cX1_mean 16 = .ok (.iload_n 2, 1) := by decide +kernel
theorem dX1_mean_17 : decode cX1_mean 17 = .ok (.iconst (-1), 1) := by decide +kernel
theorem dX1_mean_18 : decode cX1_mean 18 = .ok (.if_icmp .ne 9, 3) := by decide +kernel
theorem dX1_mean_21 : decode cX1_mean 21 = .ok (.aload_n 0, 1) := by decide +kernel
theorem dX1_mean_22 : decode cX1_mean 22 = .ok (.iconst 1, 1) := by decide +kernel
theorem dX1_mean_23 : decode cX1_mean 23 = .ok (.invokevirtual 72, 3) := by decide +kernel
theorem dX1_mean_26 : decode cX1_mean 26 = .ok (.ireturn, 1) := by decide +kernel
theorem dX1_mean_27 : decode cX1_mean 27 = .ok (.iload_n 2, 1) := by decide +kernel
theorem dX1_mean_28 : decode cX1_mean 28 = .ok (.ifCond .ne 9, 3) := by decide +kernel
theorem dX1_mean_31 : decode cX1_mean 31 = .ok (.aload_n 0, 1) := by decide +kernel
theorem dX1_mean_32 : decode cX1_mean 32 = .ok (.iconst 4, 1) := by decide +kernel
theorem dX1_mean_33 : decode cX1_mean 33 = .ok (.invokevirtual 72, 3) := by decide +kernel
theorem dX1_mean_36 : decode cX1_mean 36 = .ok (.ireturn, 1) := by decide +kernel
theorem dX1_mean_37 : decode cX1_mean 37 = .ok (.lconst 0, 1) := by decide +kernel
theorem dX1_mean_38 : decode cX1_mean 38 = .ok (.lstore_n 3, 1) := by decide +kernel
theorem dX1_mean_39 : decode cX1_mean 39 = .ok (.iconst 0, 1) := by decide +kernel
theorem dX1_mean_40 : decode cX1_mean 40 = .ok (.istore 5, 2) := by decide +kernel
theorem dX1_mean_42 : decode cX1_mean 42 = .ok (.iload 5, 2) := by decide +kernel
theorem dX1_mean_44 : decode cX1_mean 44 = .ok (.iload_n 2, 1) := by decide +kernel
theorem dX1_mean_45 : decode cX1_mean 45 = .ok (.if_icmp .ge 22, 3) := by decide +kernel
theorem dX1_mean_48 : decode cX1_mean 48 = .ok (.lload_n 3, 1) := by decide +kernel
theorem dX1_mean_49 : decode cX1_mean 49 = .ok (.aload_n 0, 1) := by decide +kernel
theorem dX1_mean_50 : decode cX1_mean 50 = .ok (.getfield 11, 3) := by decide +kernel
theorem dX1_mean_53 : decode cX1_mean 53 = .ok (.iload_n 1, 1) := by decide +kernel
theorem dX1_mean_54 : decode cX1_mean 54 = .ok (.aaload, 1) := by decide +kernel
theorem dX1_mean_55 : decode cX1_mean 55 = .ok (.iload 5, 2) := by decide +kernel
theorem dX1_mean_57 : decode cX1_mean 57 = .ok (.iaload, 1) := by decide +kernel
theorem dX1_mean_58 : decode cX1_mean 58 = .ok (.i2l, 1) := by decide +kernel
theorem dX1_mean_59 : decode cX1_mean 59 = .ok (.ladd, 1) := by decide +kernel
theorem dX1_mean_60 : decode cX1_mean 60 = .ok (.lstore_n 3, 1) := by decide +kernel
theorem dX1_mean_61 : decode cX1_mean 61 = .ok (.iinc 5 1, 3) := by decide +kernel
theorem dX1_mean_64 : decode cX1_mean 64 = .ok (.goto (-22), 3) := by decide +kernel
theorem dX1_mean_67 : decode cX1_mean 67 = .ok (.aload_n 0, 1) := by decide +kernel
theorem dX1_mean_68 : decode cX1_mean 68 = .ok (.lload_n 3, 1) := by decide +kernel
theorem dX1_mean_69 : decode cX1_mean 69 = .ok (.iload_n 2, 1) := by decide +kernel
theorem dX1_mean_70 : decode cX1_mean 70 = .ok (.i2l, 1) := by decide +kernel
theorem dX1_mean_71 : decode cX1_mean 71 = .ok (.ldiv, 1) := by decide +kernel
theorem dX1_mean_72 : decode cX1_mean 72 = .ok (.l2i, 1) := by decide +kernel
theorem dX1_mean_73 : decode cX1_mean 73 = .ok (.putfield 58, 3) := by decide +kernel
theorem dX1_mean_76 : decode cX1_mean 76 = .ok (.iconst 1, 1) := by decide +kernel
theorem dX1_mean_77 : decode cX1_mean 77 = .ok (.ireturn, 1) := by decide +kernel
theorem dX1_text_0 : decode cX1_text 0 = .ok (.iload_n 1, 1) := by decide +kernel
theorem dX1_text_1 : decode cX1_text 1 = .ok (.invokestatic 94, 3) := by decide +kernel
theorem dX1_text_4 : decode cX1_text 4 = .ok (.ifCond .eq 9, 3) := by decide +kernel
theorem dX1_text_7 : decode cX1_text 7 = .ok (.iload_n 2, 1) := by decide +kernel
theorem dX1_text_8 : decode cX1_text 8 = .ok (.bipush 60, 2) := by decide +kernel
theorem dX1_text_10 : decode cX1_text 10 = .ok (.if_icmp .le 5, 3) := by decide +kernel
theorem dX1_text_13 : decode cX1_text 13 = .ok (.iconst (-1), 1) := by decide +kernel
theorem dX1_text_14 : decode cX1_text 14 = .ok (.ireturn, 1) := by decide +kernel
theorem dX1_text_15 : decode cX1_text 15 = .ok (.iload_n 2, 1) := by decide +kernel
theorem dX1_text_16 : decode cX1_text 16 = .ok (.ifCond .ge 9, 3) := by decide +kernel
theorem dX1_text_19 : decode cX1_text 19 = .ok (.aload_n 0, 1) := by decide +kernel
theorem dX1_text_20 : decode cX1_text 20 = .ok (.iconst 5, 1) := by decide +kernel
theorem dX1_text_21 : decode cX1_text 21 = .ok (.invokevirtual 72, 3) := by decide +kernel
theorem dX1_text_24 : decode cX1_text 24 = .ok (.ireturn, 1) := by decide +kernel
theorem dX1_text_25 : decode cX1_text 25 = .ok (.iconst 0, 1) := by decide +kernel
theorem dX1_text_26 : decode cX1_text 26 = .ok (.istore_n 3, 1) := by decide +kernel
theorem dX1_text_27 : decode cX1_text 27 = .ok (.iload_n 3, 1) := by decide +kernel
theorem dX1_text_28 : decode cX1_text 28 = .ok (.iload_n 2, 1) := by decide +kernel
theorem dX1_text_29 : decode cX1_text 29 = .ok (.if_icmp .ge 19, 3) := by decide +kernel
theorem dX1_text_32 : decode cX1_text 32 = .ok (.aload_n 0, 1) := by decide +kernel
theorem dX1_text_33 : decode cX1_text 33 = .ok (.getfield 20, 3) := by decide +kernel
theorem dX1_text_36 : decode cX1_text 36 = .ok (.iload_n 1, 1) := by decide +kernel
theorem dX1_text_37 : decode cX1_text 37 = .ok (.aaload, 1) := by decide +kernel
theorem dX1_text_38 : decode cX1_text 38 = .ok (.iload_n 3, 1) := by decide +kernel
theorem dX1_text_39 : decode cX1_text 39 = .ok (.bipush 32, 2) := by decide +kernel
theorem dX1_text_41 : decode cX1_text 41 = .ok (.bastore, 1) := by decide +kernel
theorem dX1_text_42 : decode cX1_text 42 = .ok (.iinc 3 1, 3) := by decide +kernel
theorem dX1_text_45 : decode cX1_text 45 = .ok (.goto (-18), 3) := by decide +kernel
theorem dX1_text_48 : decode cX1_text 48 = .ok (.aload_n 0, 1) := by decide +kernel
theorem dX1_text_49 : decode cX1_text 49 = .ok (.getfield 23, 3) := by decide +kernel
theorem dX1_text_52 : decode cX1_text 52 = .ok (.iload_n 1, 1) := by decide +kernel
theorem dX1_text_53 : decode cX1_text 53 = .ok (.iload_n 2, 1) := by decide +kernel
theorem dX1_text_54 : decode cX1_text 54 = .ok (.iastore, 1) := by decide +kernel
theorem dX1_text_55 : decode cX1_text 55 = .ok (.iload_n 2, 1) := by decide +kernel
theorem dX1_text_56 : decode cX1_text 56 = .ok (.ireturn, 1) := by decide +kernel
theorem dX1_put_0 : decode cX1_put 0 = .ok (.iload_n 1, 1) := by decide +kernel
theorem dX1_put_1 : decode cX1_put 1 = .ok (.invokestatic 94, 3) := by decide +kernel
theorem dX1_put_4 : decode cX1_put 4 = .ok (.ifCond .ne 5, 3) := by decide +kernel
theorem dX1_put_7 : decode cX1_put 7 = .ok (.iconst (-1), 1) := by decide +kernel
theorem dX1_put_8 : decode cX1_put 8 = .ok (.ireturn, 1) := by decide +kernel
theorem dX1_put_9 : decode cX1_put 9 = .ok (.iload_n 2, 1) := by decide +kernel
theorem dX1_put_10 : decode cX1_put 10 = .ok (.aload_n 0, 1) := by decide +kernel
theorem dX1_put_11 : decode cX1_put 11 = .ok (.getfield 23, 3) := by decide +kernel
theorem dX1_put_14 : decode cX1_put 14 = .ok (.iload_n 1, 1) := by decide +kernel
theorem dX1_put_15 : decode cX1_put 15 = .ok (.iaload, 1) := by decide +kernel
theorem dX1_put_16 : decode cX1_put 16 = .ok (.invokestatic 80, 3) := by decide +kernel
theorem dX1_put_19 : decode cX1_put 19 = .ok (.istore 4, 2) := by decide +kernel
theorem dX1_put_21 : decode cX1_put 21 = .ok (.iload 4, 2) := by decide +kernel
theorem dX1_put_23 : decode cX1_put 23 = .ok (.ifCond .eq 10, 3) := by decide +kernel
theorem dX1_put_26 : decode cX1_put 26 = .ok (.aload_n 0, 1) := by decide +kernel
theorem dX1_put_27 : decode cX1_put 27 = .ok (.iload 4, 2) := by decide +kernel
theorem dX1_put_29 : decode cX1_put 29 = .ok (.invokevirtual 72, 3) := by decide +kernel
theorem dX1_put_32 : decode cX1_put 32 = .ok (.ireturn, 1) := by decide +kernel
theorem dX1_put_33 : decode cX1_put 33 = .ok (.aload_n 0, 1) := by decide +kernel
theorem dX1_put_34 : decode cX1_put 34 = .ok (.getfield 20, 3) := by decide +kernel
theorem dX1_put_37 : decode cX1_put 37 = .ok (.iload_n 1, 1) := by decide +kernel
theorem dX1_put_38 : decode cX1_put 38 = .ok (.aaload, 1) := by decide +kernel
theorem dX1_put_39 : decode cX1_put 39 = .ok (.iload_n 2, 1) := by decide +kernel
theorem dX1_put_40 : decode cX1_put 40 = .ok (.baload, 1) := by decide +kernel
theorem dX1_put_41 : decode cX1_put 41 = .ok (.istore 5, 2) := by decide +kernel
theorem dX1_put_43 : decode cX1_put 43 = .ok (.aload_n 0, 1) := by decide +kernel
theorem dX1_put_44 : decode cX1_put 44 = .ok (.getfield 20, 3) := by decide +kernel
theorem dX1_put_47 : decode cX1_put 47 = .ok (.iload_n 1, 1) := by decide +kernel
theorem dX1_put_48 : decode cX1_put 48 = .ok (.aaload, 1) := by decide +kernel
theorem dX1_put_49 : decode cX1_put 49 = .ok (.iload_n 2, 1) := by decide +kernel
theorem dX1_put_50 : decode cX1_put 50 = .ok (.iload_n 3, 1) := by decide +kernel
theorem dX1_put_51 : decode cX1_put 51 = .ok (.i2b, 1) := by decide +kernel
theorem dX1_put_52 : decode cX1_put 52 = .ok (.bastore, 1) := by decide +kernel
theorem dX1_put_53 : decode cX1_put 53 = .ok (.iload 5, 2) := by decide +kernel
theorem dX1_put_55 : decode cX1_put 55 = .ok (.sipush 1000, 3) := by decide +kernel
theorem dX1_put_58 : decode cX1_put 58 = .ok (.iadd, 1) := by decide +kernel
theorem dX1_put_59 : decode cX1_put 59 = .ok (.ireturn, 1) := by decide +kernel
theorem dX1_fault_0 : decode cX1_fault 0 = .ok (.iload_n 1, 1) := by decide +kernel
theorem dX1_fault_1 : decode cX1_fault 1 = .ok (.invokestatic 94, 3) := by decide +kernel
theorem dX1_fault_4 : decode cX1_fault 4 = .ok (.ifCond .ne 5, 3) := by decide +kernel
theorem dX1_fault_7 : decode cX1_fault 7 = .ok (.iconst (-1), 1) := by decide +kernel
theorem dX1_fault_8 : decode cX1_fault 8 = .ok (.ireturn, 1) := by decide +kernel
theorem dX1_fault_9 : decode cX1_fault 9 = .ok (.aload_n 0, 1) := by decide +kernel
theorem dX1_fault_10 : decode cX1_fault 10 = .ok (.getfield 23, 3) := by decide +kernel
theorem dX1_fault_13 : decode cX1_fault 13 = .ok (.iload_n 1, 1) := by decide +kernel
theorem dX1_fault_14 : decode cX1_fault 14 = .ok (.iaload, 1) := by decide +kernel
theorem dX1_fault_15 : decode cX1_fault 15 = .ok (.iconst (-1), 1) := by decide +kernel
theorem dX1_fault_16 : decode cX1_fault 16 = .ok (.if_icmp .ne 9, 3) := by decide +kernel
theorem dX1_fault_19 : decode cX1_fault 19 = .ok (.aload_n 0, 1) := by decide +kernel
theorem dX1_fault_20 : decode cX1_fault 20 = .ok (.iconst 1, 1) := by decide +kernel
theorem dX1_fault_21 : decode cX1_fault 21 = .ok (.invokevirtual 72, 3) := by decide +kernel
theorem dX1_fault_24 : decode cX1_fault 24 = .ok (.ireturn, 1) := by decide +kernel
theorem dX1_fault_25 : decode cX1_fault 25 = .ok (.aload_n 0, 1) := by decide +kernel
theorem dX1_fault_26 : decode cX1_fault 26 = .ok (.getfield 33, 3) := by decide +kernel
theorem dX1_fault_29 : decode cX1_fault 29 = .ok (.aload_n 0, 1) := by decide +kernel
theorem dX1_fault_30 : decode cX1_fault 30 = .ok (.getfield 20, 3) := by decide +kernel
theorem dX1_fault_33 : decode cX1_fault 33 = .ok (.iload_n 1, 1) := by decide +kernel
theorem dX1_fault_34 : decode cX1_fault 34 = .ok (.aaload, 1) := by decide +kernel
theorem dX1_fault_35 : decode cX1_fault 35 = .ok (.aload_n 0, 1) := by decide +kernel
theorem dX1_fault_36 : decode cX1_fault 36 = .ok (.getfield 23, 3) := by decide +kernel
theorem dX1_fault_39 : decode cX1_fault 39 = .ok (.iload_n 1, 1) := by decide +kernel
theorem dX1_fault_40 : decode cX1_fault 40 = .ok (.iaload, 1) := by decide +kernel
theorem dX1_fault_41 : decode cX1_fault 41 = .ok (.invokevirtual 97, 3) := by decide +kernel
theorem dX1_fault_44 : decode cX1_fault 44 = .ok (.ireturn, 1) := by decide +kernel
theorem dX1_store_0 : decode cX1_store 0 = .ok (.iload_n 1, 1) := by decide +kernel
theorem dX1_store_1 : decode cX1_store 1 = .ok (.invokestatic 94, 3) := by decide +kernel
theorem dX1_store_4 : decode cX1_store 4 = .ok (.ifCond .ne 5, 3) := by decide +kernel
theorem dX1_store_7 : decode cX1_store 7 = .ok (.iconst (-1), 1) := by decide +kernel
theorem dX1_store_8 : decode cX1_store 8 = .ok (.ireturn, 1) := by decide +kernel
theorem dX1_store_9 : decode cX1_store 9 = .ok (.aload_n 0, 1) := by decide +kernel
theorem dX1_store_10 : decode cX1_store 10 = .ok (.getfield 23, 3) := by decide +kernel
theorem dX1_store_13 : decode cX1_store 13 = .ok (.iload_n 1, 1) := by decide +kernel
theorem dX1_store_14 : decode cX1_store 14 = .ok (.iaload, 1) := by decide +kernel
theorem dX1_store_15 : decode cX1_store 15 = .ok (.iconst (-1), 1) := by decide +kernel
theorem dX1_store_16 : decode cX1_store 16 = .ok (.if_icmp .ne 9, 3) := by decide +kernel
theorem dX1_store_19 : decode cX1_store 19 = .ok (.aload_n 0, 1) := by decide +kernel
theorem dX1_store_20 : decode cX1_store 20 = .ok (.iconst 1, 1) := by decide +kernel
theorem dX1_store_21 : decode cX1_store 21 = .ok (.invokevirtual 72, 3) := by decide +kernel
theorem dX1_store_24 : decode cX1_store 24 = .ok (.ireturn, 1) := by decide +kernel
theorem dX1_store_25 : decode cX1_store 25 = .ok (.aload_n 0, 1) := by decide +kernel
theorem dX1_store_26 : decode cX1_store 26 = .ok (.getfield 33, 3) := by decide +kernel
theorem dX1_store_29 : decode cX1_store 29 = .ok (.aload_n 0, 1) := by decide +kernel
theorem dX1_store_30 : decode cX1_store 30 = .ok (.getfield 20, 3) := by decide +kernel
theorem dX1_store_33 : decode cX1_store 33 = .ok (.iload_n 1, 1) := by decide +kernel
theorem dX1_store_34 : decode cX1_store 34 = .ok (.aaload, 1) := by decide +kernel
theorem dX1_store_35 : decode cX1_store 35 = .ok (.aload_n 0, 1) := by decide +kernel
theorem dX1_store_36 : decode cX1_store 36 = .ok (.getfield 23, 3) := by decide +kernel
theorem dX1_store_39 : decode cX1_store 39 = .ok (.iload_n 1, 1) := by decide +kernel
theorem dX1_store_40 : decode cX1_store 40 = .ok (.iaload, 1) := by decide +kernel
theorem dX1_store_41 : decode cX1_store 41 = .ok (.invokevirtual 97, 3) := by decide +kernel
theorem dX1_store_44 : decode cX1_store 44 = .ok (.bipush (-9), 2) := by decide +kernel
theorem dX1_store_46 : decode cX1_store 46 = .ok (.if_icmp .eq 6, 3) := by decide +kernel
theorem dX1_store_49 : decode cX1_store 49 = .ok (.bipush (-4), 2) := by decide +kernel
theorem dX1_store_51 : decode cX1_store 51 = .ok (.ireturn, 1) := by decide +kernel
theorem dX1_store_52 : decode cX1_store 52 = .ok (.aload_n 0, 1) := by decide +kernel
theorem dX1_store_53 : decode cX1_store 53 = .ok (.getfield 33, 3) := by decide +kernel
theorem dX1_store_56 : decode cX1_store 56 = .ok (.invokevirtual 101, 3) := by decide +kernel
theorem dX1_store_59 : decode cX1_store 59 = .ok (.aload_n 0, 1) := by decide +kernel
theorem dX1_store_60 : decode cX1_store 60 = .ok (.getfield 29, 3) := by decide +kernel
theorem dX1_store_63 : decode cX1_store 63 = .ok (.aload_n 0, 1) := by decide +kernel
theorem dX1_store_64 : decode cX1_store 64 = .ok (.getfield 33, 3) := by decide +kernel
theorem dX1_store_67 : decode cX1_store 67 = .ok (.invokevirtual 104, 3) := by decide +kernel
theorem dX1_store_70 : decode cX1_store 70 = .ok (.aload_n 0, 1) := by decide +kernel
theorem dX1_store_71 : decode cX1_store 71 = .ok (.iconst 0, 1) := by decide +kernel
theorem dX1_store_72 : decode cX1_store 72 = .ok (.putfield 39, 3) := by decide +kernel
theorem dX1_store_75 : decode cX1_store 75 = .ok (.iconst 0, 1) := by decide +kernel
theorem dX1_store_76 : decode cX1_store 76 = .ok (.istore_n 2, 1) := by decide +kernel
theorem dX1_store_77 : decode cX1_store 77 = .ok (.iload_n 2, 1) := by decide +kernel
theorem dX1_store_78 : decode cX1_store 78 = .ok (.iconst 3, 1) := by decide +kernel
theorem dX1_store_79 : decode cX1_store 79 = .ok (.if_icmp .ge 16, 3) := by decide +kernel
theorem dX1_store_82 : decode cX1_store 82 = .ok (.aload_n 0, 1) := by decide +kernel
theorem dX1_store_83 : decode cX1_store 83 = .ok (.getfield 46, 3) := by decide +kernel
theorem dX1_store_86 : decode cX1_store 86 = .ok (.iload_n 2, 1) := by decide +kernel
theorem dX1_store_87 : decode cX1_store 87 = .ok (.iconst (-1), 1) := by decide +kernel
theorem dX1_store_88 : decode cX1_store 88 = .ok (.iastore, 1) := by decide +kernel
theorem dX1_store_89 : decode cX1_store 89 = .ok (.iinc 2 1, 3) := by decide +kernel
theorem dX1_store_92 : decode cX1_store 92 = .ok (.goto (-15), 3) := by decide +kernel
theorem dX1_store_95 : decode cX1_store 95 = .ok (.aload_n 0, 1) := by decide +kernel
theorem dX1_store_96 : decode cX1_store 96 = .ok (.getfield 29, 3) := by decide +kernel
theorem dX1_store_99 : decode cX1_store 99 = .ok (.getfield 108, 3) := by decide +kernel
theorem dX1_store_102 : decode cX1_store 102 = .ok (.ireturn, 1) := by decide +kernel
theorem dX1_tube_0 : decode cX1_tube 0 = .ok (.aload_n 0, 1) := by decide +kernel
theorem dX1_tube_1 : decode cX1_tube 1 = .ok (.getfield 29, 3) := by decide +kernel
theorem dX1_tube_4 : decode cX1_tube 4 = .ok (.iload_n 1, 1) := by decide +kernel
theorem dX1_tube_5 : decode cX1_tube 5 = .ok (.invokevirtual 111, 3) := by decide +kernel
theorem dX1_tube_8 : decode cX1_tube 8 = .ok (.ifCond .eq 13, 3) := by decide +kernel
theorem dX1_tube_11 : decode cX1_tube 11 = .ok (.iload_n 2, 1) := by decide +kernel
theorem dX1_tube_12 : decode cX1_tube 12 = .ok (.iconst 0, 1) := by decide +kernel
theorem dX1_tube_13 : decode cX1_tube 13 = .ok (.bipush 6, 2) := by decide +kernel
theorem dX1_tube_15 : decode cX1_tube 15 = .ok (.invokestatic 114, 3) := by decide +kernel
theorem dX1_tube_18 : decode cX1_tube 18 = .ok (.ifCond .ne 5, 3) := by decide +kernel
theorem dX1_tube_21 : decode cX1_tube 21 = .ok (.iconst (-1), 1) := by decide +kernel
theorem dX1_tube_22 : decode cX1_tube 22 = .ok (.ireturn, 1) := by decide +kernel
theorem dX1_tube_23 : decode cX1_tube 23 = .ok (.aload_n 0, 1) := by decide +kernel
theorem dX1_tube_24 : decode cX1_tube 24 = .ok (.aload_n 0, 1) := by decide +kernel
theorem dX1_tube_25 : decode cX1_tube 25 = .ok (.getfield 29, 3) := by decide +kernel
theorem dX1_tube_28 : decode cX1_tube 28 = .ok (.iload_n 1, 1) := by decide +kernel
theorem dX1_tube_29 : decode cX1_tube 29 = .ok (.iload_n 2, 1) := by decide +kernel
theorem dX1_tube_30 : decode cX1_tube 30 = .ok (.invokevirtual 117, 3) := by decide +kernel
theorem dX1_tube_33 : decode cX1_tube 33 = .ok (.putfield 58, 3) := by decide +kernel
theorem dX1_tube_36 : decode cX1_tube 36 = .ok (.iconst 1, 1) := by decide +kernel
theorem dX1_tube_37 : decode cX1_tube 37 = .ok (.ireturn, 1) := by decide +kernel
theorem dX1_mark_0 : decode cX1_mark 0 = .ok (.aload_n 0, 1) := by decide +kernel
theorem dX1_mark_1 : decode cX1_mark 1 = .ok (.getfield 29, 3) := by decide +kernel
theorem dX1_mark_4 : decode cX1_mark 4 = .ok (.iload_n 1, 1) := by decide +kernel
theorem dX1_mark_5 : decode cX1_mark 5 = .ok (.invokevirtual 111, 3) := by decide +kernel
theorem dX1_mark_8 : decode cX1_mark 8 = .ok (.ifCond .eq 12, 3) := by decide +kernel
theorem dX1_mark_11 : decode cX1_mark 11 = .ok (.iload_n 2, 1) := by decide +kernel
theorem dX1_mark_12 : decode cX1_mark 12 = .ok (.iconst 1, 1) := by decide +kernel
theorem dX1_mark_13 : decode cX1_mark 13 = .ok (.iconst 5, 1) := by decide +kernel
theorem dX1_mark_14 : decode cX1_mark 14 = .ok (.invokestatic 114, 3) := by decide +kernel
theorem dX1_mark_17 : decode cX1_mark 17 = .ok (.ifCond .ne 5, 3) := by decide +kernel
theorem dX1_mark_20 : decode cX1_mark 20 = .ok (.iconst (-1), 1) := by decide +kernel
theorem dX1_mark_21 : decode cX1_mark 21 = .ok (.ireturn, 1) := by decide +kernel
theorem dX1_mark_22 : decode cX1_mark 22 = .ok (.aload_n 0, 1) := by decide +kernel
theorem dX1_mark_23 : decode cX1_mark 23 = .ok (.getfield 29, 3) := by decide +kernel
theorem dX1_mark_26 : decode cX1_mark 26 = .ok (.iload_n 1, 1) := by decide +kernel
theorem dX1_mark_27 : decode cX1_mark 27 = .ok (.iload_n 2, 1) := by decide +kernel
theorem dX1_mark_28 : decode cX1_mark 28 = .ok (.invokevirtual 120, 3) := by decide +kernel
theorem dX1_mark_31 : decode cX1_mark 31 = .ok (.ifCond .ne 9, 3) := by decide +kernel
theorem dX1_mark_34 : decode cX1_mark 34 = .ok (.aload_n 0, 1) := by decide +kernel
theorem dX1_mark_35 : decode cX1_mark 35 = .ok (.iconst 3, 1) := by decide +kernel
theorem dX1_mark_36 : decode cX1_mark 36 = .ok (.invokevirtual 72, 3) := by decide +kernel
theorem dX1_mark_39 : decode cX1_mark 39 = .ok (.ireturn, 1) := by decide +kernel
theorem dX1_mark_40 : decode cX1_mark 40 = .ok (.aload_n 0, 1) := by decide +kernel
theorem dX1_mark_41 : decode cX1_mark 41 = .ok (.getfield 29, 3) := by decide +kernel
theorem dX1_mark_44 : decode cX1_mark 44 = .ok (.iload_n 1, 1) := by decide +kernel
theorem dX1_mark_45 : decode cX1_mark 45 = .ok (.iload_n 2, 1) := by decide +kernel
theorem dX1_mark_46 : decode cX1_mark 46 = .ok (.invokevirtual 124, 3) := by decide +kernel
theorem dX1_mark_49 : decode cX1_mark 49 = .ok (.ireturn, 1) := by decide +kernel
theorem dX1_tick_0 : decode cX1_tick 0 = .ok (.aload_n 0, 1) := by decide +kernel
theorem dX1_tick_1 : decode cX1_tick 1 = .ok (.getfield 29, 3) := by decide +kernel
theorem dX1_tick_4 : decode cX1_tick 4 = .ok (.getfield 108, 3) := by decide +kernel
theorem dX1_tick_7 : decode cX1_tick 7 = .ok (.ifCond .eq 15, 3) := by decide +kernel
theorem dX1_tick_10 : decode cX1_tick 10 = .ok (.aload_n 0, 1) := by decide +kernel
theorem dX1_tick_11 : decode cX1_tick 11 = .ok (.getfield 29, 3) := by decide +kernel
theorem dX1_tick_14 : decode cX1_tick 14 = .ok (.getfield 127, 3) := by decide +kernel
theorem dX1_tick_17 : decode cX1_tick 17 = .ok (.bipush 99, 2) := by decide +kernel
theorem dX1_tick_19 : decode cX1_tick 19 = .ok (.if_icmp .lt 6, 3) := by decide +kernel
theorem dX1_tick_22 : decode cX1_tick 22 = .ok (.bipush (-4), 2) := by decide +kernel
theorem dX1_tick_24 : decode cX1_tick 24 = .ok (.ireturn, 1) := by decide +kernel
theorem dX1_tick_25 : decode cX1_tick 25 = .ok (.aload_n 0, 1) := by decide +kernel
theorem dX1_tick_26 : decode cX1_tick 26 = .ok (.iconst 1, 1) := by decide +kernel
theorem dX1_tick_27 : decode cX1_tick 27 = .ok (.invokevirtual 130, 3) := by decide +kernel
theorem dX1_tick_30 : decode cX1_tick 30 = .ok (.ifCond .ne 6, 3) := by decide +kernel
theorem dX1_tick_33 : decode cX1_tick 33 = .ok (.bipush (-2), 2) := by decide +kernel
theorem dX1_tick_35 : decode cX1_tick 35 = .ok (.ireturn, 1) := by decide +kernel
theorem dX1_tick_36 : decode cX1_tick 36 = .ok (.aload_n 0, 1) := by decide +kernel
theorem dX1_tick_37 : decode cX1_tick 37 = .ok (.iconst 0, 1) := by decide +kernel
theorem dX1_tick_38 : decode cX1_tick 38 = .ok (.iconst 0, 1) := by decide +kernel
theorem dX1_tick_39 : decode cX1_tick 39 = .ok (.iconst 0, 1) := by decide +kernel
theorem dX1_tick_40 : decode cX1_tick 40 = .ok (.invokevirtual 133, 3) := by decide +kernel
theorem dX1_tick_43 : decode cX1_tick 43 = .ok (.aload_n 0, 1) := by decide +kernel
theorem dX1_tick_44 : decode cX1_tick 44 = .ok (.getfield 29, 3) := by decide +kernel
theorem dX1_tick_47 : decode cX1_tick 47 = .ok (.invokevirtual 137, 3) := by decide +kernel
theorem dX1_tick_50 : decode cX1_tick 50 = .ok (.ireturn, 1) := by decide +kernel
theorem dX1_set_0 : decode cX1_set 0 = .ok (.aload_n 0, 1) := by decide +kernel
theorem dX1_set_1 : decode cX1_set 1 = .ok (.getfield 29, 3) := by decide +kernel
theorem dX1_set_4 : decode cX1_set 4 = .ok (.iload_n 1, 1) := by decide +kernel
theorem dX1_set_5 : decode cX1_set 5 = .ok (.invokevirtual 111, 3) := by decide +kernel
theorem dX1_set_8 : decode cX1_set 8 = .ok (.ifCond .eq 22, 3) := by decide +kernel
theorem dX1_set_11 : decode cX1_set 11 = .ok (.iload_n 2, 1) := by decide +kernel
theorem dX1_set_12 : decode cX1_set 12 = .ok (.iconst 0, 1) := by decide +kernel
theorem dX1_set_13 : decode cX1_set 13 = .ok (.aload_n 0, 1) := by decide +kernel
theorem dX1_set_14 : decode cX1_set 14 = .ok (.getfield 29, 3) := by decide +kernel
theorem dX1_set_17 : decode cX1_set 17 = .ok (.getfield 141, 3) := by decide +kernel
theorem dX1_set_20 : decode cX1_set 20 = .ok (.iload_n 1, 1) := by decide +kernel
theorem dX1_set_21 : decode cX1_set 21 = .ok (.iaload, 1) := by decide +kernel
theorem dX1_set_22 : decode cX1_set 22 = .ok (.iconst 1, 1) := by decide +kernel
theorem dX1_set_23 : decode cX1_set 23 = .ok (.isub, 1) := by decide +kernel
theorem dX1_set_24 : decode cX1_set 24 = .ok (.invokestatic 114, 3) := by decide +kernel
theorem dX1_set_27 : decode cX1_set 27 = .ok (.ifCond .ne 5, 3) := by decide +kernel
theorem dX1_set_30 : decode cX1_set 30 = .ok (.iconst (-1), 1) := by decide +kernel
theorem dX1_set_31 : decode cX1_set 31 = .ok (.ireturn, 1) := by decide +kernel
theorem dX1_set_32 : decode cX1_set 32 = .ok (.aload_n 0, 1) := by decide +kernel
theorem dX1_set_33 : decode cX1_set 33 = .ok (.iconst 1, 1) := by decide +kernel
theorem dX1_set_34 : decode cX1_set 34 = .ok (.invokevirtual 130, 3) := by decide +kernel
theorem dX1_set_37 : decode cX1_set 37 = .ok (.ifCond .ne 6, 3) := by decide +kernel
theorem dX1_set_40 : decode cX1_set 40 = .ok (.bipush (-2), 2) := by decide +kernel
theorem dX1_set_42 : decode cX1_set 42 = .ok (.ireturn, 1) := by decide +kernel
theorem dX1_set_43 : decode cX1_set 43 = .ok (.aload_n 0, 1) := by decide +kernel
theorem dX1_set_44 : decode cX1_set 44 = .ok (.iconst 1, 1) := by decide +kernel
theorem dX1_set_45 : decode cX1_set 45 = .ok (.iload_n 1, 1) := by decide +kernel
theorem dX1_set_46 : decode cX1_set 46 = .ok (.iload_n 2, 1) := by decide +kernel
theorem dX1_set_47 : decode cX1_set 47 = .ok (.invokevirtual 133, 3) := by decide +kernel
theorem dX1_set_50 : decode cX1_set 50 = .ok (.aload_n 0, 1) := by decide +kernel
theorem dX1_set_51 : decode cX1_set 51 = .ok (.getfield 29, 3) := by decide +kernel
theorem dX1_set_54 : decode cX1_set 54 = .ok (.getfield 144, 3) := by decide +kernel
theorem dX1_set_57 : decode cX1_set 57 = .ok (.iload_n 1, 1) := by decide +kernel
theorem dX1_set_58 : decode cX1_set 58 = .ok (.iaload, 1) := by decide +kernel
theorem dX1_set_59 : decode cX1_set 59 = .ok (.ireturn, 1) := by decide +kernel
theorem dX1_swap_0 : decode cX1_swap 0 = .ok (.aload_n 0, 1) := by decide +kernel
theorem dX1_swap_1 : decode cX1_swap 1 = .ok (.getfield 29, 3) := by decide +kernel
theorem dX1_swap_4 : decode cX1_swap 4 = .ok (.iload_n 1, 1) := by decide +kernel
theorem dX1_swap_5 : decode cX1_swap 5 = .ok (.invokevirtual 111, 3) := by decide +kernel
theorem dX1_swap_8 : decode cX1_swap 8 = .ok (.ifCond .eq 19, 3) := by decide +kernel
theorem dX1_swap_11 : decode cX1_swap 11 = .ok (.aload_n 0, 1) := by decide +kernel
theorem dX1_swap_12 : decode cX1_swap 12 = .ok (.getfield 29, 3) := by decide +kernel
theorem dX1_swap_15 : decode cX1_swap 15 = .ok (.iload_n 2, 1) := by decide +kernel
theorem dX1_swap_16 : decode cX1_swap 16 = .ok (.invokevirtual 111, 3) := by decide +kernel
theorem dX1_swap_19 : decode cX1_swap 19 = .ok (.ifCond .eq 8, 3) := by decide +kernel
theorem dX1_swap_22 : decode cX1_swap 22 = .ok (.iload_n 1, 1) := by decide +kernel
theorem dX1_swap_23 : decode cX1_swap 23 = .ok (.iload_n 2, 1) := by decide +kernel
theorem dX1_swap_24 : decode cX1_swap 24 = .ok (.if_icmp .ne 5, 3) := by decide +kernel
theorem dX1_swap_27 : decode cX1_swap 27 = .ok (.iconst (-1), 1) := by decide +kernel
theorem dX1_swap_28 : decode cX1_swap 28 = .ok (.ireturn, 1) := by decide +kernel
theorem dX1_swap_29 : decode cX1_swap 29 = .ok (.aload_n 0, 1) := by decide +kernel
theorem dX1_swap_30 : decode cX1_swap 30 = .ok (.iconst 1, 1) := by decide +kernel
theorem dX1_swap_31 : decode cX1_swap 31 = .ok (.invokevirtual 130, 3) := by decide +kernel
theorem dX1_swap_34 : decode cX1_swap 34 = .ok (.ifCond .ne 6, 3) := by decide +kernel
theorem dX1_swap_37 : decode cX1_swap 37 = .ok (.bipush (-2), 2) := by decide +kernel
theorem dX1_swap_39 : decode cX1_swap 39 = .ok (.ireturn, 1) := by decide +kernel
theorem dX1_swap_40 : decode cX1_swap 40 = .ok (.aload_n 0, 1) := by decide +kernel
theorem dX1_swap_41 : decode cX1_swap 41 = .ok (.iconst 2, 1) := by decide +kernel
theorem dX1_swap_42 : decode cX1_swap 42 = .ok (.iload_n 1, 1) := by decide +kernel
theorem dX1_swap_43 : decode cX1_swap 43 = .ok (.iload_n 2, 1) := by decide +kernel
theorem dX1_swap_44 : decode cX1_swap 44 = .ok (.invokevirtual 133, 3) := by decide +kernel
theorem dX1_swap_47 : decode cX1_swap 47 = .ok (.aload_n 0, 1) := by decide +kernel
theorem dX1_swap_48 : decode cX1_swap 48 = .ok (.getfield 29, 3) := by decide +kernel
theorem dX1_swap_51 : decode cX1_swap 51 = .ok (.getfield 147, 3) := by decide +kernel
theorem dX1_swap_54 : decode cX1_swap 54 = .ok (.iload_n 1, 1) := by decide +kernel
theorem dX1_swap_55 : decode cX1_swap 55 = .ok (.iaload, 1) := by decide +kernel
theorem dX1_swap_56 : decode cX1_swap 56 = .ok (.ireturn, 1) := by decide +kernel
theorem dX1_word_0 : decode cX1_word 0 = .ok (.aload_n 0, 1) := by decide +kernel
theorem dX1_word_1 : decode cX1_word 1 = .ok (.getfield 29, 3) := by decide +kernel
theorem dX1_word_4 : decode cX1_word 4 = .ok (.iload_n 1, 1) := by decide +kernel
theorem dX1_word_5 : decode cX1_word 5 = .ok (.invokevirtual 111, 3) := by decide +kernel
theorem dX1_word_8 : decode cX1_word 8 = .ok (.ifCond .eq 15, 3) := by decide +kernel
theorem dX1_word_11 : decode cX1_word 11 = .ok (.aload_n 0, 1) := by decide +kernel
theorem dX1_word_12 : decode cX1_word 12 = .ok (.getfield 29, 3) := by decide +kernel
theorem dX1_word_15 : decode cX1_word 15 = .ok (.iload_n 1, 1) := by decide +kernel
theorem dX1_word_16 : decode cX1_word 16 = .ok (.iload_n 2, 1) := by decide +kernel
theorem dX1_word_17 : decode cX1_word 17 = .ok (.invokevirtual 150, 3) := by decide +kernel
theorem dX1_word_20 : decode cX1_word 20 = .ok (.ifCond .ne 5, 3) := by decide +kernel
theorem dX1_word_23 : decode cX1_word 23 = .ok (.iconst (-1), 1) := by decide +kernel
theorem dX1_word_24 : decode cX1_word 24 = .ok (.ireturn, 1) := by decide +kernel
theorem dX1_word_25 : decode cX1_word 25 = .ok (.aload_n 0, 1) := by decide +kernel
theorem dX1_word_26 : decode cX1_word 26 = .ok (.getfield 29, 3) := by decide +kernel
theorem dX1_word_29 : decode cX1_word 29 = .ok (.getfield 144, 3) := by decide +kernel
theorem dX1_word_32 : decode cX1_word 32 = .ok (.iload_n 1, 1) := by decide +kernel
theorem dX1_word_33 : decode cX1_word 33 = .ok (.iaload, 1) := by decide +kernel
theorem dX1_word_34 : decode cX1_word 34 = .ok (.istore_n 3, 1) := by decide +kernel
theorem dX1_word_35 : decode cX1_word 35 = .ok (.iload_n 3, 1) := by decide +kernel
theorem dX1_word_36 : decode cX1_word 36 = .ok (.iload_n 2, 1) := by decide +kernel
theorem dX1_word_37 : decode cX1_word 37 = .ok (.if_icmp .ne 6, 3) := by decide +kernel
theorem dX1_word_40 : decode cX1_word 40 = .ok (.bipush (-4), 2) := by decide +kernel
theorem dX1_word_42 : decode cX1_word 42 = .ok (.ireturn, 1) := by decide +kernel
theorem dX1_word_43 : decode cX1_word 43 = .ok (.aload_n 0, 1) := by decide +kernel
theorem dX1_word_44 : decode cX1_word 44 = .ok (.iconst 1, 1) := by decide +kernel
theorem dX1_word_45 : decode cX1_word 45 = .ok (.invokevirtual 130, 3) := by decide +kernel
theorem dX1_word_48 : decode cX1_word 48 = .ok (.ifCond .ne 6, 3) := by decide +kernel
theorem dX1_word_51 : decode cX1_word 51 = .ok (.bipush (-2), 2) := by decide +kernel
theorem dX1_word_53 : decode cX1_word 53 = .ok (.ireturn, 1) := by decide +kernel
theorem dX1_word_54 : decode cX1_word 54 = .ok (.aload_n 0, 1) := by decide +kernel
theorem dX1_word_55 : decode cX1_word 55 = .ok (.iconst 3, 1) := by decide +kernel
theorem dX1_word_56 : decode cX1_word 56 = .ok (.iload_n 1, 1) := by decide +kernel
theorem dX1_word_57 : decode cX1_word 57 = .ok (.iload_n 2, 1) := by decide +kernel
theorem dX1_word_58 : decode cX1_word 58 = .ok (.invokevirtual 133, 3) := by decide +kernel
theorem dX1_word_61 : decode cX1_word 61 = .ok (.iload_n 3, 1) := by decide +kernel
theorem dX1_word_62 : decode cX1_word 62 = .ok (.ireturn, 1) := by decide +kernel
theorem dX1_undo_0 : decode cX1_undo 0 = .ok (.iload_n 1, 1) := by decide +kernel
theorem dX1_undo_1 : decode cX1_undo 1 = .ok (.iconst 0, 1) := by decide +kernel
theorem dX1_undo_2 : decode cX1_undo 2 = .ok (.aload_n 0, 1) := by decide +kernel
theorem dX1_undo_3 : decode cX1_undo 3 = .ok (.getfield 39, 3) := by decide +kernel
theorem dX1_undo_6 : decode cX1_undo 6 = .ok (.invokestatic 114, 3) := by decide +kernel
theorem dX1_undo_9 : decode cX1_undo 9 = .ok (.ifCond .ne 5, 3) := by decide +kernel
theorem dX1_undo_12 : decode cX1_undo 12 = .ok (.iconst (-1), 1) := by decide +kernel
theorem dX1_undo_13 : decode cX1_undo 13 = .ok (.ireturn, 1) := by decide +kernel
theorem dX1_undo_14 : decode cX1_undo 14 = .ok (.aload_n 0, 1) := by decide +kernel
theorem dX1_undo_15 : decode cX1_undo 15 = .ok (.getfield 39, 3) := by decide +kernel
theorem dX1_undo_18 : decode cX1_undo 18 = .ok (.iload_n 1, 1) := by decide +kernel
theorem dX1_undo_19 : decode cX1_undo 19 = .ok (.isub, 1) := by decide +kernel
theorem dX1_undo_20 : decode cX1_undo 20 = .ok (.istore_n 2, 1) := by decide +kernel
theorem dX1_undo_21 : decode cX1_undo 21 = .ok (.aload_n 0, 1) := by decide +kernel
theorem dX1_undo_22 : decode cX1_undo 22 = .ok (.iload_n 1, 1) := by decide +kernel
theorem dX1_undo_23 : decode cX1_undo 23 = .ok (.putfield 39, 3) := by decide +kernel
theorem dX1_undo_26 : decode cX1_undo 26 = .ok (.aload_n 0, 1) := by decide +kernel
theorem dX1_undo_27 : decode cX1_undo 27 = .ok (.invokevirtual 153, 3) := by decide +kernel
theorem dX1_undo_30 : decode cX1_undo 30 = .ok (.iload_n 2, 1) := by decide +kernel
theorem dX1_undo_31 : decode cX1_undo 31 = .ok (.ireturn, 1) := by decide +kernel
theorem dX1_keep_0 : decode cX1_keep 0 = .ok (.iload_n 1, 1) := by decide +kernel
theorem dX1_keep_1 : decode cX1_keep 1 = .ok (.invokestatic 156, 3) := by decide +kernel
theorem dX1_keep_4 : decode cX1_keep 4 = .ok (.ifCond .ne 5, 3) := by decide +kernel
theorem dX1_keep_7 : decode cX1_keep 7 = .ok (.iconst (-1), 1) := by decide +kernel
theorem dX1_keep_8 : decode cX1_keep 8 = .ok (.ireturn, 1) := by decide +kernel
theorem dX1_keep_9 : decode cX1_keep 9 = .ok (.aload_n 0, 1) := by decide +kernel
theorem dX1_keep_10 : decode cX1_keep 10 = .ok (.getfield 29, 3) := by decide +kernel
theorem dX1_keep_13 : decode cX1_keep 13 = .ok (.getfield 108, 3) := by decide +kernel
theorem dX1_keep_16 : decode cX1_keep 16 = .ok (.ifCond .ne 6, 3) := by decide +kernel
theorem dX1_keep_19 : decode cX1_keep 19 = .ok (.bipush (-4), 2) := by decide +kernel
theorem dX1_keep_21 : decode cX1_keep 21 = .ok (.ireturn, 1) := by decide +kernel
theorem dX1_keep_22 : decode cX1_keep 22 = .ok (.aload_n 0, 1) := by decide +kernel
theorem dX1_keep_23 : decode cX1_keep 23 = .ok (.getfield 36, 3) := by decide +kernel
theorem dX1_keep_26 : decode cX1_keep 26 = .ok (.iconst 0, 1) := by decide +kernel
theorem dX1_keep_27 : decode cX1_keep 27 = .ok (.aload_n 0, 1) := by decide +kernel
theorem dX1_keep_28 : decode cX1_keep 28 = .ok (.getfield 43, 3) := by decide +kernel
theorem dX1_keep_31 : decode cX1_keep 31 = .ok (.iload_n 1, 1) := by decide +kernel
theorem dX1_keep_32 : decode cX1_keep 32 = .ok (.aaload, 1) := by decide +kernel
theorem dX1_keep_33 : decode cX1_keep 33 = .ok (.iconst 0, 1) := by decide +kernel
theorem dX1_keep_34 : decode cX1_keep 34 = .ok (.bipush 40, 2) := by decide +kernel
theorem dX1_keep_36 : decode cX1_keep 36 = .ok (.invokestatic 88, 3) := by decide +kernel
theorem dX1_keep_39 : decode cX1_keep 39 = .ok (.aload_n 0, 1) := by decide +kernel
theorem dX1_keep_40 : decode cX1_keep 40 = .ok (.getfield 46, 3) := by decide +kernel
theorem dX1_keep_43 : decode cX1_keep 43 = .ok (.iload_n 1, 1) := by decide +kernel
theorem dX1_keep_44 : decode cX1_keep 44 = .ok (.aload_n 0, 1) := by decide +kernel
theorem dX1_keep_45 : decode cX1_keep 45 = .ok (.getfield 39, 3) := by decide +kernel
theorem dX1_keep_48 : decode cX1_keep 48 = .ok (.iastore, 1) := by decide +kernel
theorem dX1_keep_49 : decode cX1_keep 49 = .ok (.aload_n 0, 1) := by decide +kernel
theorem dX1_keep_50 : decode cX1_keep 50 = .ok (.getfield 39, 3) := by decide +kernel
theorem dX1_keep_53 : decode cX1_keep 53 = .ok (.ireturn, 1) := by decide +kernel
theorem dX1_on_0 : decode cX1_on 0 = .ok (.iload_n 1, 1) := by decide +kernel
theorem dX1_on_1 : decode cX1_on 1 = .ok (.invokestatic 156, 3) := by decide +kernel
theorem dX1_on_4 : decode cX1_on 4 = .ok (.ifCond .ne 5, 3) := by decide +kernel
theorem dX1_on_7 : decode cX1_on 7 = .ok (.iconst (-1), 1) := by decide +kernel
theorem dX1_on_8 : decode cX1_on 8 = .ok (.ireturn, 1) := by decide +kernel
theorem dX1_on_9 : decode cX1_on 9 = .ok (.aload_n 0, 1) := by decide +kernel
theorem dX1_on_10 : decode cX1_on 10 = .ok (.getfield 46, 3) := by decide +kernel
theorem dX1_on_13 : decode cX1_on 13 = .ok (.iload_n 1, 1) := by decide +kernel
theorem dX1_on_14 : decode cX1_on 14 = .ok (.iaload, 1) := by decide +kernel
theorem dX1_on_15 : decode cX1_on 15 = .ok (.iconst (-1), 1) := by decide +kernel
theorem dX1_on_16 : decode cX1_on 16 = .ok (.if_icmp .ne 9, 3) := by decide +kernel
theorem dX1_on_19 : decode cX1_on 19 = .ok (.aload_n 0, 1) := by decide +kernel
theorem dX1_on_20 : decode cX1_on 20 = .ok (.iconst 1, 1) := by decide +kernel
theorem dX1_on_21 : decode cX1_on 21 = .ok (.invokevirtual 72, 3) := by decide +kernel
theorem dX1_on_24 : decode cX1_on 24 = .ok (.ireturn, 1) := by decide +kernel
theorem dX1_on_25 : decode cX1_on 25 = .ok (.aload_n 0, 1) := by decide +kernel
theorem dX1_on_26 : decode cX1_on 26 = .ok (.getfield 43, 3) := by decide +kernel
theorem dX1_on_29 : decode cX1_on 29 = .ok (.iload_n 1, 1) := by decide +kernel
theorem dX1_on_30 : decode cX1_on 30 = .ok (.aaload, 1) := by decide +kernel
theorem dX1_on_31 : decode cX1_on 31 = .ok (.iconst 0, 1) := by decide +kernel
theorem dX1_on_32 : decode cX1_on 32 = .ok (.aload_n 0, 1) := by decide +kernel
theorem dX1_on_33 : decode cX1_on 33 = .ok (.getfield 36, 3) := by decide +kernel
theorem dX1_on_36 : decode cX1_on 36 = .ok (.iconst 0, 1) := by decide +kernel
theorem dX1_on_37 : decode cX1_on 37 = .ok (.bipush 40, 2) := by decide +kernel
theorem dX1_on_39 : decode cX1_on 39 = .ok (.invokestatic 88, 3) := by decide +kernel
theorem dX1_on_42 : decode cX1_on 42 = .ok (.aload_n 0, 1) := by decide +kernel
theorem dX1_on_43 : decode cX1_on 43 = .ok (.aload_n 0, 1) := by decide +kernel
theorem dX1_on_44 : decode cX1_on 44 = .ok (.getfield 46, 3) := by decide +kernel
theorem dX1_on_47 : decode cX1_on 47 = .ok (.iload_n 1, 1) := by decide +kernel
theorem dX1_on_48 : decode cX1_on 48 = .ok (.iaload, 1) := by decide +kernel
theorem dX1_on_49 : decode cX1_on 49 = .ok (.putfield 39, 3) := by decide +kernel
theorem dX1_on_52 : decode cX1_on 52 = .ok (.aload_n 0, 1) := by decide +kernel
theorem dX1_on_53 : decode cX1_on 53 = .ok (.invokevirtual 153, 3) := by decide +kernel
theorem dX1_on_56 : decode cX1_on 56 = .ok (.aload_n 0, 1) := by decide +kernel
theorem dX1_on_57 : decode cX1_on 57 = .ok (.getfield 39, 3) := by decide +kernel
theorem dX1_on_60 : decode cX1_on 60 = .ok (.ireturn, 1) := by decide +kernel
theorem dX1_later_0 : decode cX1_later 0 = .ok (.aload_n 0, 1) := by decide +kernel
theorem dX1_later_1 : decode cX1_later 1 = .ok (.getfield 29, 3) := by decide +kernel
theorem dX1_later_4 : decode cX1_later 4 = .ok (.iload_n 1, 1) := by decide +kernel
theorem dX1_later_5 : decode cX1_later 5 = .ok (.invokevirtual 111, 3) := by decide +kernel
theorem dX1_later_8 : decode cX1_later 8 = .ok (.ifCond .eq 13, 3) := by decide +kernel
theorem dX1_later_11 : decode cX1_later 11 = .ok (.iload_n 2, 1) := by decide +kernel
theorem dX1_later_12 : decode cX1_later 12 = .ok (.iconst 0, 1) := by decide +kernel
theorem dX1_later_13 : decode cX1_later 13 = .ok (.bipush 60, 2) := by decide +kernel
theorem dX1_later_15 : decode cX1_later 15 = .ok (.invokestatic 114, 3) := by decide +kernel
theorem dX1_later_18 : decode cX1_later 18 = .ok (.ifCond .ne 5, 3) := by decide +kernel
theorem dX1_later_21 : decode cX1_later 21 = .ok (.iconst (-1), 1) := by decide +kernel
theorem dX1_later_22 : decode cX1_later 22 = .ok (.ireturn, 1) := by decide +kernel
theorem dX1_later_23 : decode cX1_later 23 = .ok (.aload_n 0, 1) := by decide +kernel
theorem dX1_later_24 : decode cX1_later 24 = .ok (.getfield 33, 3) := by decide +kernel
theorem dX1_later_27 : decode cX1_later 27 = .ok (.aload_n 0, 1) := by decide +kernel
theorem dX1_later_28 : decode cX1_later 28 = .ok (.getfield 29, 3) := by decide +kernel
theorem dX1_later_31 : decode cX1_later 31 = .ok (.invokevirtual 104, 3) := by decide +kernel
theorem dX1_later_34 : decode cX1_later 34 = .ok (.aload_n 0, 1) := by decide +kernel
theorem dX1_later_35 : decode cX1_later 35 = .ok (.getfield 33, 3) := by decide +kernel
theorem dX1_later_38 : decode cX1_later 38 = .ok (.iload_n 2, 1) := by decide +kernel
theorem dX1_later_39 : decode cX1_later 39 = .ok (.invokevirtual 159, 3) := by decide +kernel
theorem dX1_later_42 : decode cX1_later 42 = .ok (.aload_n 0, 1) := by decide +kernel
theorem dX1_later_43 : decode cX1_later 43 = .ok (.aload_n 0, 1) := by decide +kernel
theorem dX1_later_44 : decode cX1_later 44 = .ok (.getfield 33, 3) := by decide +kernel
theorem dX1_later_47 : decode cX1_later 47 = .ok (.invokevirtual 137, 3) := by decide +kernel
theorem dX1_later_50 : decode cX1_later 50 = .ok (.putfield 58, 3) := by decide +kernel
theorem dX1_later_53 : decode cX1_later 53 = .ok (.aload_n 0, 1) := by decide +kernel
theorem dX1_later_54 : decode cX1_later 54 = .ok (.getfield 33, 3) := by decide +kernel
theorem dX1_later_57 : decode cX1_later 57 = .ok (.getfield 144, 3) := by decide +kernel
theorem dX1_later_60 : decode cX1_later 60 = .ok (.iload_n 1, 1) := by decide +kernel
theorem dX1_later_61 : decode cX1_later 61 = .ok (.iaload, 1) := by decide +kernel
theorem dX1_later_62 : decode cX1_later 62 = .ok (.ireturn, 1) := by decide +kernel
theorem dX1_hears_0 : decode cX1_hears 0 = .ok (.aload_n 0, 1) := by decide +kernel
theorem dX1_hears_1 : decode cX1_hears 1 = .ok (.getfield 29, 3) := by decide +kernel
theorem dX1_hears_4 : decode cX1_hears 4 = .ok (.iload_n 1, 1) := by decide +kernel
theorem dX1_hears_5 : decode cX1_hears 5 = .ok (.invokevirtual 111, 3) := by decide +kernel
theorem dX1_hears_8 : decode cX1_hears 8 = .ok (.ifCond .eq 20, 3) := by decide +kernel
theorem dX1_hears_11 : decode cX1_hears 11 = .ok (.iload_n 2, 1) := by decide +kernel
theorem dX1_hears_12 : decode cX1_hears 12 = .ok (.iconst 1, 1) := by decide +kernel
theorem dX1_hears_13 : decode cX1_hears 13 = .ok (.bipush 20, 2) := by decide +kernel
theorem dX1_hears_15 : decode cX1_hears 15 = .ok (.invokestatic 114, 3) := by decide +kernel
theorem dX1_hears_18 : decode cX1_hears 18 = .ok (.ifCond .eq 10, 3) := by decide +kernel
theorem dX1_hears_21 : decode cX1_hears 21 = .ok (.iload_n 3, 1) := by decide +kernel
theorem dX1_hears_22 : decode cX1_hears 22 = .ok (.invokestatic 68, 3) := by decide +kernel
theorem dX1_hears_25 : decode cX1_hears 25 = .ok (.ifCond .ne 5, 3) := by decide +kernel
theorem dX1_hears_28 : decode cX1_hears 28 = .ok (.iconst (-1), 1) := by decide +kernel
theorem dX1_hears_29 : decode cX1_hears 29 = .ok (.ireturn, 1) := by decide +kernel
theorem dX1_hears_30 : decode cX1_hears 30 = .ok (.aload_n 0, 1) := by decide +kernel
theorem dX1_hears_31 : decode cX1_hears 31 = .ok (.iload_n 3, 1) := by decide +kernel
theorem dX1_hears_32 : decode cX1_hears 32 = .ok (.iload_n 2, 1) := by decide +kernel
theorem dX1_hears_33 : decode cX1_hears 33 = .ok (.invokevirtual 76, 3) := by decide +kernel
theorem dX1_hears_36 : decode cX1_hears 36 = .ok (.aload_n 0, 1) := by decide +kernel
theorem dX1_hears_37 : decode cX1_hears 37 = .ok (.getfield 33, 3) := by decide +kernel
theorem dX1_hears_40 : decode cX1_hears 40 = .ok (.aload_n 0, 1) := by decide +kernel
theorem dX1_hears_41 : decode cX1_hears 41 = .ok (.getfield 29, 3) := by decide +kernel
theorem dX1_hears_44 : decode cX1_hears 44 = .ok (.invokevirtual 104, 3) := by decide +kernel
theorem dX1_hears_47 : decode cX1_hears 47 = .ok (.iconst 0, 1) := by decide +kernel
theorem dX1_hears_48 : decode cX1_hears 48 = .ok (.istore 4, 2) := by decide +kernel
theorem dX1_hears_50 : decode cX1_hears 50 = .ok (.iconst 0, 1) := by decide +kernel
theorem dX1_hears_51 : decode cX1_hears 51 = .ok (.istore 5, 2) := by decide +kernel
theorem dX1_hears_53 : decode cX1_hears 53 = .ok (.iload 5, 2) := by decide +kernel
theorem dX1_hears_55 : decode cX1_hears 55 = .ok (.iload_n 2, 1) := by decide +kernel
theorem dX1_hears_56 : decode cX1_hears 56 = .ok (.if_icmp .ge 62, 3) := by decide +kernel
theorem dX1_hears_59 : decode cX1_hears 59 = .ok (.aload_n 0, 1) := by decide +kernel
theorem dX1_hears_60 : decode cX1_hears 60 = .ok (.getfield 11, 3) := by decide +kernel
theorem dX1_hears_63 : decode cX1_hears 63 = .ok (.iload_n 3, 1) := by decide +kernel
theorem dX1_hears_64 : decode cX1_hears 64 = .ok (.aaload, 1) := by decide +kernel
theorem dX1_hears_65 : decode cX1_hears 65 = .ok (.iload 5, 2) := by decide +kernel
theorem dX1_hears_67 : decode cX1_hears 67 = .ok (.aload_n 0, 1) := by decide +kernel
theorem dX1_hears_68 : decode cX1_hears 68 = .ok (.getfield 33, 3) := by decide +kernel
theorem dX1_hears_71 : decode cX1_hears 71 = .ok (.iload_n 1, 1) := by decide +kernel
theorem dX1_hears_72 : decode cX1_hears 72 = .ok (.invokevirtual 163, 3) := by decide +kernel
theorem dX1_hears_75 : decode cX1_hears 75 = .ok (.ifCond .eq 14, 3) := by decide +kernel
theorem dX1_hears_78 : decode cX1_hears 78 = .ok (.aload_n 0, 1) := by decide +kernel
theorem dX1_hears_79 : decode cX1_hears 79 = .ok (.getfield 33, 3) := by decide +kernel
theorem dX1_hears_82 : decode cX1_hears 82 = .ok (.iload_n 1, 1) := by decide +kernel
theorem dX1_hears_83 : decode cX1_hears 83 = .ok (.invokevirtual 166, 3) := by decide +kernel
theorem dX1_hears_86 : decode cX1_hears 86 = .ok (.goto 4, 3) := by decide +kernel
theorem dX1_hears_89 : decode cX1_hears 89 = .ok (.iconst (-1), 1) := by decide +kernel
theorem dX1_hears_90 : decode cX1_hears 90 = .ok (.iastore, 1) := by decide +kernel
theorem dX1_hears_91 : decode cX1_hears 91 = .ok (.iload 4, 2) := by decide +kernel
theorem dX1_hears_93 : decode cX1_hears 93 = .ok (.aload_n 0, 1) := by decide +kernel
theorem dX1_hears_94 : decode cX1_hears 94 = .ok (.getfield 33, 3) := by decide +kernel
theorem dX1_hears_97 : decode cX1_hears 97 = .ok (.iload_n 1, 1) := by decide +kernel
theorem dX1_hears_98 : decode cX1_hears 98 = .ok (.invokevirtual 166, 3) := by decide +kernel
theorem dX1_hears_101 : decode cX1_hears 101 = .ok (.iadd, 1) := by decide +kernel
theorem dX1_hears_102 : decode cX1_hears 102 = .ok (.istore 4, 2) := by decide +kernel
theorem dX1_hears_104 : decode cX1_hears 104 = .ok (.aload_n 0, 1) := by decide +kernel
theorem dX1_hears_105 : decode cX1_hears 105 = .ok (.getfield 33, 3) := by decide +kernel
theorem dX1_hears_108 : decode cX1_hears 108 = .ok (.iconst 1, 1) := by decide +kernel
theorem dX1_hears_109 : decode cX1_hears 109 = .ok (.invokevirtual 159, 3) := by decide +kernel
theorem dX1_hears_112 : decode cX1_hears 112 = .ok (.iinc 5 1, 3) := by decide +kernel
theorem dX1_hears_115 : decode cX1_hears 115 = .ok (.goto (-62), 3) := by decide +kernel
theorem dX1_hears_118 : decode cX1_hears 118 = .ok (.iload 4, 2) := by decide +kernel
theorem dX1_hears_120 : decode cX1_hears 120 = .ok (.ireturn, 1) := by decide +kernel
theorem dX1_finds_0 : decode cX1_finds 0 = .ok (.aload_n 0, 1) := by decide +kernel
theorem dX1_finds_1 : decode cX1_finds 1 = .ok (.getfield 29, 3) := by decide +kernel
theorem dX1_finds_4 : decode cX1_finds 4 = .ok (.iload_n 1, 1) := by decide +kernel
theorem dX1_finds_5 : decode cX1_finds 5 = .ok (.invokevirtual 111, 3) := by decide +kernel
theorem dX1_finds_8 : decode cX1_finds 8 = .ok (.ifCond .eq 26, 3) := by decide +kernel
theorem dX1_finds_11 : decode cX1_finds 11 = .ok (.iload_n 3, 1) := by decide +kernel
theorem dX1_finds_12 : decode cX1_finds 12 = .ok (.iconst 1, 1) := by decide +kernel
theorem dX1_finds_13 : decode cX1_finds 13 = .ok (.bipush 8, 2) := by decide +kernel
theorem dX1_finds_15 : decode cX1_finds 15 = .ok (.invokestatic 114, 3) := by decide +kernel
theorem dX1_finds_18 : decode cX1_finds 18 = .ok (.ifCond .eq 16, 3) := by decide +kernel
theorem dX1_finds_21 : decode cX1_finds 21 = .ok (.iload_n 2, 1) := by decide +kernel
theorem dX1_finds_22 : decode cX1_finds 22 = .ok (.iconst 0, 1) := by decide +kernel
theorem dX1_finds_23 : decode cX1_finds 23 = .ok (.iconst 1, 1) := by decide +kernel
theorem dX1_finds_24 : decode cX1_finds 24 = .ok (.iload_n 3, 1) := by decide +kernel
theorem dX1_finds_25 : decode cX1_finds 25 = .ok (.ishl, 1) := by decide +kernel
theorem dX1_finds_26 : decode cX1_finds 26 = .ok (.iconst 1, 1) := by decide +kernel
theorem dX1_finds_27 : decode cX1_finds 27 = .ok (.isub, 1) := by decide +kernel
theorem dX1_finds_28 : decode cX1_finds 28 = .ok (.invokestatic 114, 3) := by decide +kernel
theorem dX1_finds_31 : decode cX1_finds 31 = .ok (.ifCond .ne 5, 3) := by decide +kernel
theorem dX1_finds_34 : decode cX1_finds 34 = .ok (.iconst (-1), 1) := by decide +kernel
theorem dX1_finds_35 : decode cX1_finds 35 = .ok (.ireturn, 1) := by decide +kernel
theorem dX1_finds_36 : decode cX1_finds 36 = .ok (.aload_n 0, 1) := by decide +kernel
theorem dX1_finds_37 : decode cX1_finds 37 = .ok (.getfield 33, 3) := by decide +kernel
theorem dX1_finds_40 : decode cX1_finds 40 = .ok (.aload_n 0, 1) := by decide +kernel
theorem dX1_finds_41 : decode cX1_finds 41 = .ok (.getfield 29, 3) := by decide +kernel
theorem dX1_finds_44 : decode cX1_finds 44 = .ok (.invokevirtual 104, 3) := by decide +kernel
theorem dX1_finds_47 : decode cX1_finds 47 = .ok (.iconst 0, 1) := by decide +kernel
theorem dX1_finds_48 : decode cX1_finds 48 = .ok (.istore 4, 2) := by decide +kernel
theorem dX1_finds_50 : decode cX1_finds 50 = .ok (.iconst 0, 1) := by decide +kernel
theorem dX1_finds_51 : decode cX1_finds 51 = .ok (.istore 5, 2) := by decide +kernel
theorem dX1_finds_53 : decode cX1_finds 53 = .ok (.iconst 0, 1) := by decide +kernel
theorem dX1_finds_54 : decode cX1_finds 54 = .ok (.istore 6, 2) := by decide +kernel
theorem dX1_finds_56 : decode cX1_finds 56 = .ok (.iconst 1, 1) := by decide +kernel
theorem dX1_finds_57 : decode cX1_finds 57 = .ok (.istore 7, 2) := by decide +kernel
theorem dX1_finds_59 : decode cX1_finds 59 = .ok (.iload 7, 2) := by decide +kernel
theorem dX1_finds_61 : decode cX1_finds 61 = .ok (.bipush 60, 2) := by decide +kernel
theorem dX1_finds_63 : decode cX1_finds 63 = .ok (.if_icmp .gt 82, 3) := by decide +kernel
theorem dX1_finds_66 : decode cX1_finds 66 = .ok (.aload_n 0, 1) := by decide +kernel
theorem dX1_finds_67 : decode cX1_finds 67 = .ok (.getfield 33, 3) := by decide +kernel
theorem dX1_finds_70 : decode cX1_finds 70 = .ok (.iload_n 1, 1) := by decide +kernel
theorem dX1_finds_71 : decode cX1_finds 71 = .ok (.invokevirtual 163, 3) := by decide +kernel
theorem dX1_finds_74 : decode cX1_finds 74 = .ok (.ifCond .eq 57, 3) := by decide +kernel
theorem dX1_finds_77 : decode cX1_finds 77 = .ok (.aload_n 0, 1) := by decide +kernel
theorem dX1_finds_78 : decode cX1_finds 78 = .ok (.getfield 33, 3) := by decide +kernel
theorem dX1_finds_81 : decode cX1_finds 81 = .ok (.iload_n 1, 1) := by decide +kernel
theorem dX1_finds_82 : decode cX1_finds 82 = .ok (.invokevirtual 166, 3) := by decide +kernel
theorem dX1_finds_85 : decode cX1_finds 85 = .ok (.istore 8, 2) := by decide +kernel
theorem dX1_finds_87 : decode cX1_finds 87 = .ok (.iload 6, 2) := by decide +kernel
theorem dX1_finds_89 : decode cX1_finds 89 = .ok (.iconst 1, 1) := by decide +kernel
theorem dX1_finds_90 : decode cX1_finds 90 = .ok (.ishr, 1) := by decide +kernel
theorem dX1_finds_91 : decode cX1_finds 91 = .ok (.iload 8, 2) := by decide +kernel
theorem dX1_finds_93 : decode cX1_finds 93 = .ok (.iload_n 3, 1) := by decide +kernel
theorem dX1_finds_94 : decode cX1_finds 94 = .ok (.iconst 1, 1) := by decide +kernel
theorem dX1_finds_95 : decode cX1_finds 95 = .ok (.isub, 1) := by decide +kernel
theorem dX1_finds_96 : decode cX1_finds 96 = .ok (.ishl, 1) := by decide +kernel
theorem dX1_finds_97 : decode cX1_finds 97 = .ok (.ior, 1) := by decide +kernel
theorem dX1_finds_98 : decode cX1_finds 98 = .ok (.istore 6, 2) := by decide +kernel
theorem dX1_finds_100 : decode cX1_finds 100 = .ok (.iinc 4 1, 3) := by decide +kernel
theorem dX1_finds_103 : decode cX1_finds 103 = .ok (.iload 5, 2) := by decide +kernel
theorem dX1_finds_105 : decode cX1_finds 105 = .ok (.iload 8, 2) := by decide +kernel
theorem dX1_finds_107 : decode cX1_finds 107 = .ok (.iadd, 1) := by decide +kernel
theorem dX1_finds_108 : decode cX1_finds 108 = .ok (.istore 5, 2) := by decide +kernel
theorem dX1_finds_110 : decode cX1_finds 110 = .ok (.iload 4, 2) := by decide +kernel
theorem dX1_finds_112 : decode cX1_finds 112 = .ok (.iload_n 3, 1) := by decide +kernel
theorem dX1_finds_113 : decode cX1_finds 113 = .ok (.if_icmp .lt 18, 3) := by decide +kernel
theorem dX1_finds_116 : decode cX1_finds 116 = .ok (.iload 6, 2) := by decide +kernel
theorem dX1_finds_118 : decode cX1_finds 118 = .ok (.iload_n 2, 1) := by decide +kernel
theorem dX1_finds_119 : decode cX1_finds 119 = .ok (.if_icmp .ne 12, 3) := by decide +kernel
theorem dX1_finds_122 : decode cX1_finds 122 = .ok (.aload_n 0, 1) := by decide +kernel
theorem dX1_finds_123 : decode cX1_finds 123 = .ok (.iload 5, 2) := by decide +kernel
theorem dX1_finds_125 : decode cX1_finds 125 = .ok (.putfield 58, 3) := by decide +kernel
theorem dX1_finds_128 : decode cX1_finds 128 = .ok (.iload 7, 2) := by decide +kernel
theorem dX1_finds_130 : decode cX1_finds 130 = .ok (.ireturn, 1) := by decide +kernel
theorem dX1_finds_131 : decode cX1_finds 131 = .ok (.aload_n 0, 1) := by decide +kernel
theorem dX1_finds_132 : decode cX1_finds 132 = .ok (.getfield 33, 3) := by decide +kernel
theorem dX1_finds_135 : decode cX1_finds 135 = .ok (.iconst 1, 1) := by decide +kernel
theorem dX1_finds_136 : decode cX1_finds 136 = .ok (.invokevirtual 159, 3) := by decide +kernel
theorem dX1_finds_139 : decode cX1_finds 139 = .ok (.iinc 7 1, 3) := by decide +kernel
theorem dX1_finds_142 : decode cX1_finds 142 = .ok (.goto (-83), 3) := by decide +kernel
theorem dX1_finds_145 : decode cX1_finds 145 = .ok (.bipush (-9), 2) := by decide +kernel
theorem dX1_finds_147 : decode cX1_finds 147 = .ok (.ireturn, 1) := by decide +kernel
theorem dX1_round_0 : decode cX1_round 0 = .ok (.aload_n 0, 1) := by decide +kernel
theorem dX1_round_1 : decode cX1_round 1 = .ok (.getfield 29, 3) := by decide +kernel
theorem dX1_round_4 : decode cX1_round 4 = .ok (.getfield 108, 3) := by decide +kernel
theorem dX1_round_7 : decode cX1_round 7 = .ok (.ifCond .ne 6, 3) := by decide +kernel
theorem dX1_round_10 : decode cX1_round 10 = .ok (.bipush (-4), 2) := by decide +kernel
theorem dX1_round_12 : decode cX1_round 12 = .ok (.ireturn, 1) := by decide +kernel
theorem dX1_round_13 : decode cX1_round 13 = .ok (.aload_n 0, 1) := by decide +kernel
theorem dX1_round_14 : decode cX1_round 14 = .ok (.getfield 33, 3) := by decide +kernel
theorem dX1_round_17 : decode cX1_round 17 = .ok (.aload_n 0, 1) := by decide +kernel
theorem dX1_round_18 : decode cX1_round 18 = .ok (.getfield 29, 3) := by decide +kernel
theorem dX1_round_21 : decode cX1_round 21 = .ok (.invokevirtual 104, 3) := by decide +kernel
theorem dX1_round_24 : decode cX1_round 24 = .ok (.aload_n 0, 1) := by decide +kernel
theorem dX1_round_25 : decode cX1_round 25 = .ok (.getfield 33, 3) := by decide +kernel
theorem dX1_round_28 : decode cX1_round 28 = .ok (.invokevirtual 137, 3) := by decide +kernel
theorem dX1_round_31 : decode cX1_round 31 = .ok (.istore_n 1, 1) := by decide +kernel
theorem dX1_round_32 : decode cX1_round 32 = .ok (.iconst 1, 1) := by decide +kernel
theorem dX1_round_33 : decode cX1_round 33 = .ok (.istore_n 2, 1) := by decide +kernel
theorem dX1_round_34 : decode cX1_round 34 = .ok (.iload_n 2, 1) := by decide +kernel
theorem dX1_round_35 : decode cX1_round 35 = .ok (.bipush 120, 2) := by decide +kernel
theorem dX1_round_37 : decode cX1_round 37 = .ok (.if_icmp .gt 50, 3) := by decide +kernel
theorem dX1_round_40 : decode cX1_round 40 = .ok (.aload_n 0, 1) := by decide +kernel
theorem dX1_round_41 : decode cX1_round 41 = .ok (.getfield 33, 3) := by decide +kernel
theorem dX1_round_44 : decode cX1_round 44 = .ok (.iconst 1, 1) := by decide +kernel
theorem dX1_round_45 : decode cX1_round 45 = .ok (.invokevirtual 159, 3) := by decide +kernel
theorem dX1_round_48 : decode cX1_round 48 = .ok (.iload_n 1, 1) := by decide +kernel
theorem dX1_round_49 : decode cX1_round 49 = .ok (.aload_n 0, 1) := by decide +kernel
theorem dX1_round_50 : decode cX1_round 50 = .ok (.getfield 33, 3) := by decide +kernel
theorem dX1_round_53 : decode cX1_round 53 = .ok (.invokevirtual 137, 3) := by decide +kernel
theorem dX1_round_56 : decode cX1_round 56 = .ok (.invokestatic 169, 3) := by decide +kernel
theorem dX1_round_59 : decode cX1_round 59 = .ok (.istore_n 1, 1) := by decide +kernel
theorem dX1_round_60 : decode cX1_round 60 = .ok (.aload_n 0, 1) := by decide +kernel
theorem dX1_round_61 : decode cX1_round 61 = .ok (.getfield 33, 3) := by decide +kernel
theorem dX1_round_64 : decode cX1_round 64 = .ok (.aload_n 0, 1) := by decide +kernel
theorem dX1_round_65 : decode cX1_round 65 = .ok (.getfield 29, 3) := by decide +kernel
theorem dX1_round_68 : decode cX1_round 68 = .ok (.invokevirtual 174, 3) := by decide +kernel
theorem dX1_round_71 : decode cX1_round 71 = .ok (.ifCond .eq 10, 3) := by decide +kernel
theorem dX1_round_74 : decode cX1_round 74 = .ok (.aload_n 0, 1) := by decide +kernel
theorem dX1_round_75 : decode cX1_round 75 = .ok (.iload_n 1, 1) := by decide +kernel
theorem dX1_round_76 : decode cX1_round 76 = .ok (.putfield 58, 3) := by decide +kernel
theorem dX1_round_79 : decode cX1_round 79 = .ok (.iload_n 2, 1) := by decide +kernel
theorem dX1_round_80 : decode cX1_round 80 = .ok (.ireturn, 1) := by decide +kernel
theorem dX1_round_81 : decode cX1_round 81 = .ok (.iinc 2 1, 3) := by decide +kernel
theorem dX1_round_84 : decode cX1_round 84 = .ok (.goto (-50), 3) := by decide +kernel
theorem dX1_round_87 : decode cX1_round 87 = .ok (.bipush (-9), 2) := by decide +kernel
theorem dX1_round_89 : decode cX1_round 89 = .ok (.ireturn, 1) := by decide +kernel
theorem dX1_left_0 : decode cX1_left 0 = .ok (.iload_n 1, 1) := by decide +kernel
theorem dX1_left_1 : decode cX1_left 1 = .ok (.iconst 0, 1) := by decide +kernel
theorem dX1_left_2 : decode cX1_left 2 = .ok (.bipush 60, 2) := by decide +kernel
theorem dX1_left_4 : decode cX1_left 4 = .ok (.invokestatic 114, 3) := by decide +kernel
theorem dX1_left_7 : decode cX1_left 7 = .ok (.ifCond .ne 5, 3) := by decide +kernel
theorem dX1_left_10 : decode cX1_left 10 = .ok (.iconst (-1), 1) := by decide +kernel
theorem dX1_left_11 : decode cX1_left 11 = .ok (.ireturn, 1) := by decide +kernel
theorem dX1_left_12 : decode cX1_left 12 = .ok (.aload_n 0, 1) := by decide +kernel
theorem dX1_left_13 : decode cX1_left 13 = .ok (.getfield 29, 3) := by decide +kernel
theorem dX1_left_16 : decode cX1_left 16 = .ok (.getfield 108, 3) := by decide +kernel
theorem dX1_left_19 : decode cX1_left 19 = .ok (.ifCond .ne 6, 3) := by decide +kernel
theorem dX1_left_22 : decode cX1_left 22 = .ok (.bipush (-4), 2) := by decide +kernel
theorem dX1_left_24 : decode cX1_left 24 = .ok (.ireturn, 1) := by decide +kernel
theorem dX1_left_25 : decode cX1_left 25 = .ok (.aload_n 0, 1) := by decide +kernel
theorem dX1_left_26 : decode cX1_left 26 = .ok (.getfield 33, 3) := by decide +kernel
theorem dX1_left_29 : decode cX1_left 29 = .ok (.aload_n 0, 1) := by decide +kernel
theorem dX1_left_30 : decode cX1_left 30 = .ok (.getfield 29, 3) := by decide +kernel
theorem dX1_left_33 : decode cX1_left 33 = .ok (.invokevirtual 104, 3) := by decide +kernel
theorem dX1_left_36 : decode cX1_left 36 = .ok (.aload_n 0, 1) := by decide +kernel
theorem dX1_left_37 : decode cX1_left 37 = .ok (.getfield 33, 3) := by decide +kernel
theorem dX1_left_40 : decode cX1_left 40 = .ok (.iload_n 1, 1) := by decide +kernel
theorem dX1_left_41 : decode cX1_left 41 = .ok (.invokevirtual 159, 3) := by decide +kernel
theorem dX1_left_44 : decode cX1_left 44 = .ok (.aload_n 0, 1) := by decide +kernel
theorem dX1_left_45 : decode cX1_left 45 = .ok (.aload_n 0, 1) := by decide +kernel
theorem dX1_left_46 : decode cX1_left 46 = .ok (.getfield 33, 3) := by decide +kernel
theorem dX1_left_49 : decode cX1_left 49 = .ok (.invokevirtual 178, 3) := by decide +kernel
theorem dX1_left_52 : decode cX1_left 52 = .ok (.invokestatic 181, 3) := by decide +kernel
theorem dX1_left_55 : decode cX1_left 55 = .ok (.putfield 58, 3) := by decide +kernel
theorem dX1_left_58 : decode cX1_left 58 = .ok (.aload_n 0, 1) := by decide +kernel
theorem dX1_left_59 : decode cX1_left 59 = .ok (.getfield 33, 3) := by decide +kernel
theorem dX1_left_62 : decode cX1_left 62 = .ok (.invokevirtual 137, 3) := by decide +kernel
theorem dX1_left_65 : decode cX1_left 65 = .ok (.ireturn, 1) := by decide +kernel
theorem dX1_best_0 : decode cX1_best 0 = .ok (.iload_n 1, 1) := by decide +kernel
theorem dX1_best_1 : decode cX1_best 1 = .ok (.iconst 1, 1) := by decide +kernel
theorem dX1_best_2 : decode cX1_best 2 = .ok (.bipush 40, 2) := by decide +kernel
theorem dX1_best_4 : decode cX1_best 4 = .ok (.invokestatic 114, 3) := by decide +kernel
theorem dX1_best_7 : decode cX1_best 7 = .ok (.ifCond .ne 5, 3) := by decide +kernel
theorem dX1_best_10 : decode cX1_best 10 = .ok (.iconst (-1), 1) := by decide +kernel
theorem dX1_best_11 : decode cX1_best 11 = .ok (.ireturn, 1) := by decide +kernel
theorem dX1_best_12 : decode cX1_best 12 = .ok (.aload_n 0, 1) := by decide +kernel
theorem dX1_best_13 : decode cX1_best 13 = .ok (.getfield 29, 3) := by decide +kernel
theorem dX1_best_16 : decode cX1_best 16 = .ok (.getfield 108, 3) := by decide +kernel
theorem dX1_best_19 : decode cX1_best 19 = .ok (.ifCond .ne 6, 3) := by decide +kernel
theorem dX1_best_22 : decode cX1_best 22 = .ok (.bipush (-4), 2) := by decide +kernel
theorem dX1_best_24 : decode cX1_best 24 = .ok (.ireturn, 1) := by decide +kernel
theorem dX1_best_25 : decode cX1_best 25 = .ok (.aload_n 0, 1) := by decide +kernel
theorem dX1_best_26 : decode cX1_best 26 = .ok (.getfield 33, 3) := by decide +kernel
theorem dX1_best_29 : decode cX1_best 29 = .ok (.aload_n 0, 1) := by decide +kernel
theorem dX1_best_30 : decode cX1_best 30 = .ok (.getfield 29, 3) := by decide +kernel
theorem dX1_best_33 : decode cX1_best 33 = .ok (.invokevirtual 104, 3) := by decide +kernel
theorem dX1_best_36 : decode cX1_best 36 = .ok (.aload_n 0, 1) := by decide +kernel
theorem dX1_best_37 : decode cX1_best 37 = .ok (.getfield 33, 3) := by decide +kernel
theorem dX1_best_40 : decode cX1_best 40 = .ok (.iload_n 1, 1) := by decide +kernel
theorem dX1_best_41 : decode cX1_best 41 = .ok (.invokevirtual 159, 3) := by decide +kernel
theorem dX1_best_44 : decode cX1_best 44 = .ok (.aload_n 0, 1) := by decide +kernel
theorem dX1_best_45 : decode cX1_best 45 = .ok (.getfield 33, 3) := by decide +kernel
theorem dX1_best_48 : decode cX1_best 48 = .ok (.invokevirtual 137, 3) := by decide +kernel
theorem dX1_best_51 : decode cX1_best 51 = .ok (.istore_n 2, 1) := by decide +kernel
theorem dX1_best_52 : decode cX1_best 52 = .ok (.bipush (-9), 2) := by decide +kernel
theorem dX1_best_54 : decode cX1_best 54 = .ok (.istore_n 3, 1) := by decide +kernel
theorem dX1_best_55 : decode cX1_best 55 = .ok (.iconst 0, 1) := by decide +kernel
theorem dX1_best_56 : decode cX1_best 56 = .ok (.istore 4, 2) := by decide +kernel
theorem dX1_best_58 : decode cX1_best 58 = .ok (.iload 4, 2) := by decide +kernel
theorem dX1_best_60 : decode cX1_best 60 = .ok (.aload_n 0, 1) := by decide +kernel
theorem dX1_best_61 : decode cX1_best 61 = .ok (.getfield 29, 3) := by decide +kernel
theorem dX1_best_64 : decode cX1_best 64 = .ok (.getfield 108, 3) := by decide +kernel
theorem dX1_best_67 : decode cX1_best 67 = .ok (.if_icmp .ge 91, 3) := by decide +kernel
theorem dX1_best_70 : decode cX1_best 70 = .ok (.iload 4, 2) := by decide +kernel
theorem dX1_best_72 : decode cX1_best 72 = .ok (.iconst 1, 1) := by decide +kernel
theorem dX1_best_73 : decode cX1_best 73 = .ok (.iadd, 1) := by decide +kernel
theorem dX1_best_74 : decode cX1_best 74 = .ok (.istore 5, 2) := by decide +kernel
theorem dX1_best_76 : decode cX1_best 76 = .ok (.iload 5, 2) := by decide +kernel
theorem dX1_best_78 : decode cX1_best 78 = .ok (.aload_n 0, 1) := by decide +kernel
theorem dX1_best_79 : decode cX1_best 79 = .ok (.getfield 29, 3) := by decide +kernel
theorem dX1_best_82 : decode cX1_best 82 = .ok (.getfield 108, 3) := by decide +kernel
theorem dX1_best_85 : decode cX1_best 85 = .ok (.if_icmp .ge 67, 3) := by decide +kernel
theorem dX1_best_88 : decode cX1_best 88 = .ok (.aload_n 0, 1) := by decide +kernel
theorem dX1_best_89 : decode cX1_best 89 = .ok (.getfield 33, 3) := by decide +kernel
theorem dX1_best_92 : decode cX1_best 92 = .ok (.aload_n 0, 1) := by decide +kernel
theorem dX1_best_93 : decode cX1_best 93 = .ok (.getfield 29, 3) := by decide +kernel
theorem dX1_best_96 : decode cX1_best 96 = .ok (.invokevirtual 104, 3) := by decide +kernel
theorem dX1_best_99 : decode cX1_best 99 = .ok (.aload_n 0, 1) := by decide +kernel
theorem dX1_best_100 : decode cX1_best 100 = .ok (.getfield 33, 3) := by decide +kernel
theorem dX1_best_103 : decode cX1_best 103 = .ok (.iload 4, 2) := by decide +kernel
theorem dX1_best_105 : decode cX1_best 105 = .ok (.iload 5, 2) := by decide +kernel
theorem dX1_best_107 : decode cX1_best 107 = .ok (.invokevirtual 186, 3) := by decide +kernel
theorem dX1_best_110 : decode cX1_best 110 = .ok (.aload_n 0, 1) := by decide +kernel
theorem dX1_best_111 : decode cX1_best 111 = .ok (.getfield 33, 3) := by decide +kernel
theorem dX1_best_114 : decode cX1_best 114 = .ok (.iload_n 1, 1) := by decide +kernel
theorem dX1_best_115 : decode cX1_best 115 = .ok (.invokevirtual 159, 3) := by decide +kernel
theorem dX1_best_118 : decode cX1_best 118 = .ok (.aload_n 0, 1) := by decide +kernel
theorem dX1_best_119 : decode cX1_best 119 = .ok (.getfield 33, 3) := by decide +kernel
theorem dX1_best_122 : decode cX1_best 122 = .ok (.invokevirtual 137, 3) := by decide +kernel
theorem dX1_best_125 : decode cX1_best 125 = .ok (.iload_n 2, 1) := by decide +kernel
theorem dX1_best_126 : decode cX1_best 126 = .ok (.if_icmp .le 20, 3) := by decide +kernel
theorem dX1_best_129 : decode cX1_best 129 = .ok (.aload_n 0, 1) := by decide +kernel
theorem dX1_best_130 : decode cX1_best 130 = .ok (.getfield 33, 3) := by decide +kernel
theorem dX1_best_133 : decode cX1_best 133 = .ok (.invokevirtual 137, 3) := by decide +kernel
theorem dX1_best_136 : decode cX1_best 136 = .ok (.istore_n 2, 1) := by decide +kernel
theorem dX1_best_137 : decode cX1_best 137 = .ok (.bipush 10, 2) := by decide +kernel
theorem dX1_best_139 : decode cX1_best 139 = .ok (.iload 4, 2) := by decide +kernel
theorem dX1_best_141 : decode cX1_best 141 = .ok (.imul, 1) := by decide +kernel
theorem dX1_best_142 : decode cX1_best 142 = .ok (.iload 5, 2) := by decide +kernel
theorem dX1_best_144 : decode cX1_best 144 = .ok (.iadd, 1) := by decide +kernel
theorem dX1_best_145 : decode cX1_best 145 = .ok (.istore_n 3, 1) := by decide +kernel
theorem dX1_best_146 : decode cX1_best 146 = .ok (.iinc 5 1, 3) := by decide +kernel
theorem dX1_best_149 : decode cX1_best 149 = .ok (.goto (-73), 3) := by decide +kernel
theorem dX1_best_152 : decode cX1_best 152 = .ok (.iinc 4 1, 3) := by decide +kernel
theorem dX1_best_155 : decode cX1_best 155 = .ok (.goto (-97), 3) := by decide +kernel
theorem dX1_best_158 : decode cX1_best 158 = .ok (.iload_n 3, 1) := by decide +kernel
theorem dX1_best_159 : decode cX1_best 159 = .ok (.bipush (-9), 2) := by decide +kernel
theorem dX1_best_161 : decode cX1_best 161 = .ok (.if_icmp .eq 8, 3) := by decide +kernel
theorem dX1_best_164 : decode cX1_best 164 = .ok (.aload_n 0, 1) := by decide +kernel
theorem dX1_best_165 : decode cX1_best 165 = .ok (.iload_n 2, 1) := by decide +kernel
theorem dX1_best_166 : decode cX1_best 166 = .ok (.putfield 58, 3) := by decide +kernel
theorem dX1_best_169 : decode cX1_best 169 = .ok (.iload_n 3, 1) := by decide +kernel
theorem dX1_best_170 : decode cX1_best 170 = .ok (.ireturn, 1) := by decide +kernel
theorem dX1_safest_0 : decode cX1_safest 0 = .ok (.iload_n 1, 1) := by decide +kernel
theorem dX1_safest_1 : decode cX1_safest 1 = .ok (.iconst 0, 1) := by decide +kernel
theorem dX1_safest_2 : decode cX1_safest 2 = .ok (.sipush 511, 3) := by decide +kernel
theorem dX1_safest_5 : decode cX1_safest 5 = .ok (.invokestatic 114, 3) := by decide +kernel
theorem dX1_safest_8 : decode cX1_safest 8 = .ok (.ifCond .ne 5, 3) := by decide +kernel
theorem dX1_safest_11 : decode cX1_safest 11 = .ok (.iconst (-1), 1) := by decide +kernel
theorem dX1_safest_12 : decode cX1_safest 12 = .ok (.ireturn, 1) := by decide +kernel
theorem dX1_safest_13 : decode cX1_safest 13 = .ok (.aload_n 0, 1) := by decide +kernel
theorem dX1_safest_14 : decode cX1_safest 14 = .ok (.getfield 29, 3) := by decide +kernel
theorem dX1_safest_17 : decode cX1_safest 17 = .ok (.getfield 108, 3) := by decide +kernel
theorem dX1_safest_20 : decode cX1_safest 20 = .ok (.ifCond .ne 6, 3) := by decide +kernel
theorem dX1_safest_23 : decode cX1_safest 23 = .ok (.bipush (-4), 2) := by decide +kernel
theorem dX1_safest_25 : decode cX1_safest 25 = .ok (.ireturn, 1) := by decide +kernel
theorem dX1_safest_26 : decode cX1_safest 26 = .ok (.bipush 61, 2) := by decide +kernel
theorem dX1_safest_28 : decode cX1_safest 28 = .ok (.istore_n 2, 1) := by decide +kernel
theorem dX1_safest_29 : decode cX1_safest 29 = .ok (.bipush (-9), 2) := by decide +kernel
theorem dX1_safest_31 : decode cX1_safest 31 = .ok (.istore_n 3, 1) := by decide +kernel
theorem dX1_safest_32 : decode cX1_safest 32 = .ok (.iconst 0, 1) := by decide +kernel
theorem dX1_safest_33 : decode cX1_safest 33 = .ok (.istore 4, 2) := by decide +kernel
theorem dX1_safest_35 : decode cX1_safest 35 = .ok (.iload 4, 2) := by decide +kernel
theorem dX1_safest_37 : decode cX1_safest 37 = .ok (.aload_n 0, 1) := by decide +kernel
theorem dX1_safest_38 : decode cX1_safest 38 = .ok (.getfield 29, 3) := by decide +kernel
theorem dX1_safest_41 : decode cX1_safest 41 = .ok (.getfield 108, 3) := by decide +kernel
theorem dX1_safest_44 : decode cX1_safest 44 = .ok (.if_icmp .ge 48, 3) := by decide +kernel
theorem dX1_safest_47 : decode cX1_safest 47 = .ok (.aload_n 0, 1) := by decide +kernel
theorem dX1_safest_48 : decode cX1_safest 48 = .ok (.getfield 29, 3) := by decide +kernel
theorem dX1_safest_51 : decode cX1_safest 51 = .ok (.iload 4, 2) := by decide +kernel
theorem dX1_safest_53 : decode cX1_safest 53 = .ok (.iload_n 1, 1) := by decide +kernel
theorem dX1_safest_54 : decode cX1_safest 54 = .ok (.invokevirtual 150, 3) := by decide +kernel
theorem dX1_safest_57 : decode cX1_safest 57 = .ok (.ifCond .eq 13, 3) := by decide +kernel
theorem dX1_safest_60 : decode cX1_safest 60 = .ok (.aload_n 0, 1) := by decide +kernel
theorem dX1_safest_61 : decode cX1_safest 61 = .ok (.iload 4, 2) := by decide +kernel
theorem dX1_safest_63 : decode cX1_safest 63 = .ok (.iload_n 1, 1) := by decide +kernel
theorem dX1_safest_64 : decode cX1_safest 64 = .ok (.invokevirtual 189, 3) := by decide +kernel
theorem dX1_safest_67 : decode cX1_safest 67 = .ok (.goto 5, 3) := by decide +kernel
theorem dX1_safest_70 : decode cX1_safest 70 = .ok (.bipush 61, 2) := by decide +kernel
theorem dX1_safest_72 : decode cX1_safest 72 = .ok (.istore 5, 2) := by decide +kernel
theorem dX1_safest_74 : decode cX1_safest 74 = .ok (.iload 5, 2) := by decide +kernel
theorem dX1_safest_76 : decode cX1_safest 76 = .ok (.iload_n 2, 1) := by decide +kernel
theorem dX1_safest_77 : decode cX1_safest 77 = .ok (.if_icmp .ge 9, 3) := by decide +kernel
theorem dX1_safest_80 : decode cX1_safest 80 = .ok (.iload 5, 2) := by decide +kernel
theorem dX1_safest_82 : decode cX1_safest 82 = .ok (.istore_n 2, 1) := by decide +kernel
theorem dX1_safest_83 : decode cX1_safest 83 = .ok (.iload 4, 2) := by decide +kernel
theorem dX1_safest_85 : decode cX1_safest 85 = .ok (.istore_n 3, 1) := by decide +kernel
theorem dX1_safest_86 : decode cX1_safest 86 = .ok (.iinc 4 1, 3) := by decide +kernel
theorem dX1_safest_89 : decode cX1_safest 89 = .ok (.goto (-54), 3) := by decide +kernel
theorem dX1_safest_92 : decode cX1_safest 92 = .ok (.iload_n 3, 1) := by decide +kernel
theorem dX1_safest_93 : decode cX1_safest 93 = .ok (.bipush (-9), 2) := by decide +kernel
theorem dX1_safest_95 : decode cX1_safest 95 = .ok (.if_icmp .eq 8, 3) := by decide +kernel
theorem dX1_safest_98 : decode cX1_safest 98 = .ok (.aload_n 0, 1) := by decide +kernel
theorem dX1_safest_99 : decode cX1_safest 99 = .ok (.iload_n 2, 1) := by decide +kernel
theorem dX1_safest_100 : decode cX1_safest 100 = .ok (.putfield 58, 3) := by decide +kernel
theorem dX1_safest_103 : decode cX1_safest 103 = .ok (.iload_n 3, 1) := by decide +kernel
theorem dX1_safest_104 : decode cX1_safest 104 = .ok (.ireturn, 1) := by decide +kernel
theorem dX1_kinds_0 : decode cX1_kinds 0 = .ok (.aload_n 0, 1) := by decide +kernel
theorem dX1_kinds_1 : decode cX1_kinds 1 = .ok (.getfield 29, 3) := by decide +kernel
theorem dX1_kinds_4 : decode cX1_kinds 4 = .ok (.iload_n 1, 1) := by decide +kernel
theorem dX1_kinds_5 : decode cX1_kinds 5 = .ok (.invokevirtual 111, 3) := by decide +kernel
theorem dX1_kinds_8 : decode cX1_kinds 8 = .ok (.ifCond .eq 10, 3) := by decide +kernel
theorem dX1_kinds_11 : decode cX1_kinds 11 = .ok (.iload_n 2, 1) := by decide +kernel
theorem dX1_kinds_12 : decode cX1_kinds 12 = .ok (.invokestatic 68, 3) := by decide +kernel
theorem dX1_kinds_15 : decode cX1_kinds 15 = .ok (.ifCond .ne 5, 3) := by decide +kernel
theorem dX1_kinds_18 : decode cX1_kinds 18 = .ok (.iconst (-1), 1) := by decide +kernel
theorem dX1_kinds_19 : decode cX1_kinds 19 = .ok (.ireturn, 1) := by decide +kernel
theorem dX1_kinds_20 : decode cX1_kinds 20 = .ok (.aload_n 0, 1) := by decide +kernel
theorem dX1_kinds_21 : decode cX1_kinds 21 = .ok (.iload_n 2, 1) := by decide +kernel
theorem dX1_kinds_22 : decode cX1_kinds 22 = .ok (.invokevirtual 192, 3) := by decide +kernel
theorem dX1_kinds_25 : decode cX1_kinds 25 = .ok (.istore_n 3, 1) := by decide +kernel
theorem dX1_kinds_26 : decode cX1_kinds 26 = .ok (.iload_n 3, 1) := by decide +kernel
theorem dX1_kinds_27 : decode cX1_kinds 27 = .ok (.ifCond .eq 11, 3) := by decide +kernel
theorem dX1_kinds_30 : decode cX1_kinds 30 = .ok (.aload_n 0, 1) := by decide +kernel
theorem dX1_kinds_31 : decode cX1_kinds 31 = .ok (.iload_n 3, 1) := by decide +kernel
theorem dX1_kinds_32 : decode cX1_kinds 32 = .ok (.invokevirtual 72, 3) := by decide +kernel
theorem dX1_kinds_35 : decode cX1_kinds 35 = .ok (.goto 9, 3) := by decide +kernel
theorem dX1_kinds_38 : decode cX1_kinds 38 = .ok (.aload_n 0, 1) := by decide +kernel
theorem dX1_kinds_39 : decode cX1_kinds 39 = .ok (.iload_n 1, 1) := by decide +kernel
theorem dX1_kinds_40 : decode cX1_kinds 40 = .ok (.iload_n 2, 1) := by decide +kernel
theorem dX1_kinds_41 : decode cX1_kinds 41 = .ok (.invokevirtual 195, 3) := by decide +kernel
theorem dX1_kinds_44 : decode cX1_kinds 44 = .ok (.ireturn, 1) := by decide +kernel
theorem dX1_words_0 : decode cX1_words 0 = .ok (.aload_n 0, 1) := by decide +kernel
theorem dX1_words_1 : decode cX1_words 1 = .ok (.getfield 29, 3) := by decide +kernel
theorem dX1_words_4 : decode cX1_words 4 = .ok (.iload_n 1, 1) := by decide +kernel
theorem dX1_words_5 : decode cX1_words 5 = .ok (.invokevirtual 111, 3) := by decide +kernel
theorem dX1_words_8 : decode cX1_words 8 = .ok (.ifCond .eq 10, 3) := by decide +kernel
theorem dX1_words_11 : decode cX1_words 11 = .ok (.iload_n 2, 1) := by decide +kernel
theorem dX1_words_12 : decode cX1_words 12 = .ok (.invokestatic 68, 3) := by decide +kernel
theorem dX1_words_15 : decode cX1_words 15 = .ok (.ifCond .ne 5, 3) := by decide +kernel
theorem dX1_words_18 : decode cX1_words 18 = .ok (.iconst (-1), 1) := by decide +kernel
theorem dX1_words_19 : decode cX1_words 19 = .ok (.ireturn, 1) := by decide +kernel
theorem dX1_words_20 : decode cX1_words 20 = .ok (.aload_n 0, 1) := by decide +kernel
theorem dX1_words_21 : decode cX1_words 21 = .ok (.iload_n 2, 1) := by decide +kernel
theorem dX1_words_22 : decode cX1_words 22 = .ok (.invokevirtual 192, 3) := by decide +kernel
theorem dX1_words_25 : decode cX1_words 25 = .ok (.istore_n 3, 1) := by decide +kernel
theorem dX1_words_26 : decode cX1_words 26 = .ok (.iload_n 3, 1) := by decide +kernel
theorem dX1_words_27 : decode cX1_words 27 = .ok (.ifCond .eq 9, 3) := by decide +kernel
theorem dX1_words_30 : decode cX1_words 30 = .ok (.aload_n 0, 1) := by decide +kernel
theorem dX1_words_31 : decode cX1_words 31 = .ok (.iload_n 3, 1) := by decide +kernel
theorem dX1_words_32 : decode cX1_words 32 = .ok (.invokevirtual 72, 3) := by decide +kernel
theorem dX1_words_35 : decode cX1_words 35 = .ok (.ireturn, 1) := by decide +kernel
theorem dX1_words_36 : decode cX1_words 36 = .ok (.iconst 0, 1) := by decide +kernel
theorem dX1_words_37 : decode cX1_words 37 = .ok (.istore 4, 2) := by decide +kernel
theorem dX1_words_39 : decode cX1_words 39 = .ok (.iconst 0, 1) := by decide +kernel
theorem dX1_words_40 : decode cX1_words 40 = .ok (.istore 5, 2) := by decide +kernel
theorem dX1_words_42 : decode cX1_words 42 = .ok (.iconst 0, 1) := by decide +kernel
theorem dX1_words_43 : decode cX1_words 43 = .ok (.istore 6, 2) := by decide +kernel
theorem dX1_words_45 : decode cX1_words 45 = .ok (.iload 6, 2) := by decide +kernel
theorem dX1_words_47 : decode cX1_words 47 = .ok (.sipush 511, 3) := by decide +kernel
theorem dX1_words_50 : decode cX1_words 50 = .ok (.if_icmp .gt 70, 3) := by decide +kernel
theorem dX1_words_53 : decode cX1_words 53 = .ok (.aload_n 0, 1) := by decide +kernel
theorem dX1_words_54 : decode cX1_words 54 = .ok (.getfield 29, 3) := by decide +kernel
theorem dX1_words_57 : decode cX1_words 57 = .ok (.iload_n 1, 1) := by decide +kernel
theorem dX1_words_58 : decode cX1_words 58 = .ok (.iload 6, 2) := by decide +kernel
theorem dX1_words_60 : decode cX1_words 60 = .ok (.invokevirtual 150, 3) := by decide +kernel
theorem dX1_words_63 : decode cX1_words 63 = .ok (.ifCond .eq 57, 3) := by decide +kernel
theorem dX1_words_66 : decode cX1_words 66 = .ok (.aload_n 0, 1) := by decide +kernel
theorem dX1_words_67 : decode cX1_words 67 = .ok (.getfield 33, 3) := by decide +kernel
theorem dX1_words_70 : decode cX1_words 70 = .ok (.aload_n 0, 1) := by decide +kernel
theorem dX1_words_71 : decode cX1_words 71 = .ok (.getfield 29, 3) := by decide +kernel
theorem dX1_words_74 : decode cX1_words 74 = .ok (.invokevirtual 104, 3) := by decide +kernel
theorem dX1_words_77 : decode cX1_words 77 = .ok (.aload_n 0, 1) := by decide +kernel
theorem dX1_words_78 : decode cX1_words 78 = .ok (.getfield 33, 3) := by decide +kernel
theorem dX1_words_81 : decode cX1_words 81 = .ok (.getfield 144, 3) := by decide +kernel
theorem dX1_words_84 : decode cX1_words 84 = .ok (.iload_n 1, 1) := by decide +kernel
theorem dX1_words_85 : decode cX1_words 85 = .ok (.iload 6, 2) := by decide +kernel
theorem dX1_words_87 : decode cX1_words 87 = .ok (.iastore, 1) := by decide +kernel
theorem dX1_words_88 : decode cX1_words 88 = .ok (.aload_n 0, 1) := by decide +kernel
theorem dX1_words_89 : decode cX1_words 89 = .ok (.iload_n 1, 1) := by decide +kernel
theorem dX1_words_90 : decode cX1_words 90 = .ok (.iload_n 2, 1) := by decide +kernel
theorem dX1_words_91 : decode cX1_words 91 = .ok (.invokevirtual 198, 3) := by decide +kernel
theorem dX1_words_94 : decode cX1_words 94 = .ok (.ifCond .eq 20, 3) := by decide +kernel
theorem dX1_words_97 : decode cX1_words 97 = .ok (.iload 5, 2) := by decide +kernel
theorem dX1_words_99 : decode cX1_words 99 = .ok (.ifCond .ne 8, 3) := by decide +kernel
theorem dX1_words_102 : decode cX1_words 102 = .ok (.iload 6, 2) := by decide +kernel
theorem dX1_words_104 : decode cX1_words 104 = .ok (.goto 5, 3) := by decide +kernel
theorem dX1_words_107 : decode cX1_words 107 = .ok (.iload 4, 2) := by decide +kernel
theorem dX1_words_109 : decode cX1_words 109 = .ok (.istore 4, 2) := by decide +kernel
theorem dX1_words_111 : decode cX1_words 111 = .ok (.iinc 5 1, 3) := by decide +kernel
theorem dX1_words_114 : decode cX1_words 114 = .ok (.iinc 6 1, 3) := by decide +kernel
theorem dX1_words_117 : decode cX1_words 117 = .ok (.goto (-72), 3) := by decide +kernel
theorem dX1_words_120 : decode cX1_words 120 = .ok (.iload 5, 2) := by decide +kernel
theorem dX1_words_122 : decode cX1_words 122 = .ok (.ifCond .ne 6, 3) := by decide +kernel
theorem dX1_words_125 : decode cX1_words 125 = .ok (.bipush (-9), 2) := by decide +kernel
theorem dX1_words_127 : decode cX1_words 127 = .ok (.ireturn, 1) := by decide +kernel
theorem dX1_words_128 : decode cX1_words 128 = .ok (.aload_n 0, 1) := by decide +kernel
theorem dX1_words_129 : decode cX1_words 129 = .ok (.iload 4, 2) := by decide +kernel
theorem dX1_words_131 : decode cX1_words 131 = .ok (.putfield 58, 3) := by decide +kernel
theorem dX1_words_134 : decode cX1_words 134 = .ok (.iload 5, 2) := by decide +kernel
theorem dX1_words_136 : decode cX1_words 136 = .ok (.ireturn, 1) := by decide +kernel
theorem dX1_test_0 : decode cX1_test 0 = .ok (.aload_n 0, 1) := by decide +kernel
theorem dX1_test_1 : decode cX1_test 1 = .ok (.getfield 29, 3) := by decide +kernel
theorem dX1_test_4 : decode cX1_test 4 = .ok (.iload_n 1, 1) := by decide +kernel
theorem dX1_test_5 : decode cX1_test 5 = .ok (.invokevirtual 111, 3) := by decide +kernel
theorem dX1_test_8 : decode cX1_test 8 = .ok (.ifCond .eq 10, 3) := by decide +kernel
theorem dX1_test_11 : decode cX1_test 11 = .ok (.iload_n 2, 1) := by decide +kernel
theorem dX1_test_12 : decode cX1_test 12 = .ok (.invokestatic 68, 3) := by decide +kernel
theorem dX1_test_15 : decode cX1_test 15 = .ok (.ifCond .ne 5, 3) := by decide +kernel
theorem dX1_test_18 : decode cX1_test 18 = .ok (.iconst (-1), 1) := by decide +kernel
theorem dX1_test_19 : decode cX1_test 19 = .ok (.ireturn, 1) := by decide +kernel
theorem dX1_test_20 : decode cX1_test 20 = .ok (.aload_n 0, 1) := by decide +kernel
theorem dX1_test_21 : decode cX1_test 21 = .ok (.iload_n 2, 1) := by decide +kernel
theorem dX1_test_22 : decode cX1_test 22 = .ok (.invokevirtual 192, 3) := by decide +kernel
theorem dX1_test_25 : decode cX1_test 25 = .ok (.istore_n 3, 1) := by decide +kernel
theorem dX1_test_26 : decode cX1_test 26 = .ok (.iload_n 3, 1) := by decide +kernel
theorem dX1_test_27 : decode cX1_test 27 = .ok (.ifCond .eq 9, 3) := by decide +kernel
theorem dX1_test_30 : decode cX1_test 30 = .ok (.aload_n 0, 1) := by decide +kernel
theorem dX1_test_31 : decode cX1_test 31 = .ok (.iload_n 3, 1) := by decide +kernel
theorem dX1_test_32 : decode cX1_test 32 = .ok (.invokevirtual 72, 3) := by decide +kernel
theorem dX1_test_35 : decode cX1_test 35 = .ok (.ireturn, 1) := by decide +kernel
theorem dX1_test_36 : decode cX1_test 36 = .ok (.aload_n 0, 1) := by decide +kernel
theorem dX1_test_37 : decode cX1_test 37 = .ok (.iload_n 1, 1) := by decide +kernel
theorem dX1_test_38 : decode cX1_test 38 = .ok (.iload_n 2, 1) := by decide +kernel
theorem dX1_test_39 : decode cX1_test 39 = .ok (.invokevirtual 195, 3) := by decide +kernel
theorem dX1_test_42 : decode cX1_test 42 = .ok (.istore 4, 2) := by decide +kernel
theorem dX1_test_44 : decode cX1_test 44 = .ok (.iload 4, 2) := by decide +kernel
theorem dX1_test_46 : decode cX1_test 46 = .ok (.ifCond .ne 6, 3) := by decide +kernel
theorem dX1_test_49 : decode cX1_test 49 = .ok (.bipush (-9), 2) := by decide +kernel
theorem dX1_test_51 : decode cX1_test 51 = .ok (.ireturn, 1) := by decide +kernel
theorem dX1_test_52 : decode cX1_test 52 = .ok (.aload_n 0, 1) := by decide +kernel
theorem dX1_test_53 : decode cX1_test 53 = .ok (.iload_n 1, 1) := by decide +kernel
theorem dX1_test_54 : decode cX1_test 54 = .ok (.invokevirtual 201, 3) := by decide +kernel
theorem dX1_test_57 : decode cX1_test 57 = .ok (.bipush 7, 2) := by decide +kernel
theorem dX1_test_59 : decode cX1_test 59 = .ok (.istore 5, 2) := by decide +kernel
theorem dX1_test_61 : decode cX1_test 61 = .ok (.bipush (-9), 2) := by decide +kernel
theorem dX1_test_63 : decode cX1_test 63 = .ok (.istore 6, 2) := by decide +kernel
theorem dX1_test_65 : decode cX1_test 65 = .ok (.iconst 0, 1) := by decide +kernel
theorem dX1_test_66 : decode cX1_test 66 = .ok (.istore 7, 2) := by decide +kernel
theorem dX1_test_68 : decode cX1_test 68 = .ok (.iload 7, 2) := by decide +kernel
theorem dX1_test_70 : decode cX1_test 70 = .ok (.bipush 20, 2) := by decide +kernel
theorem dX1_test_72 : decode cX1_test 72 = .ok (.if_icmp .ge 36, 3) := by decide +kernel
theorem dX1_test_75 : decode cX1_test 75 = .ok (.aload_n 0, 1) := by decide +kernel
theorem dX1_test_76 : decode cX1_test 76 = .ok (.iload 4, 2) := by decide +kernel
theorem dX1_test_78 : decode cX1_test 78 = .ok (.iload 7, 2) := by decide +kernel
theorem dX1_test_80 : decode cX1_test 80 = .ok (.invokevirtual 204, 3) := by decide +kernel
theorem dX1_test_83 : decode cX1_test 83 = .ok (.istore 8, 2) := by decide +kernel
theorem dX1_test_85 : decode cX1_test 85 = .ok (.iload 8, 2) := by decide +kernel
theorem dX1_test_87 : decode cX1_test 87 = .ok (.iload 5, 2) := by decide +kernel
theorem dX1_test_89 : decode cX1_test 89 = .ok (.if_icmp .ge 13, 3) := by decide +kernel
theorem dX1_test_92 : decode cX1_test 92 = .ok (.iload 8, 2) := by decide +kernel
theorem dX1_test_94 : decode cX1_test 94 = .ok (.istore 5, 2) := by decide +kernel
theorem dX1_test_96 : decode cX1_test 96 = .ok (.iload 7, 2) := by decide +kernel
theorem dX1_test_98 : decode cX1_test 98 = .ok (.iconst 1, 1) := by decide +kernel
