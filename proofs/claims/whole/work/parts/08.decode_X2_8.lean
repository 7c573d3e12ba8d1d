theorem dX2_duel_27 : decode cX2_duel 27 = .ok (.imul, 1) := by decide +kernel
theorem dX2_duel_28 : decode cX2_duel 28 = .ok (.ishl, 1) := by decide +kernel
theorem dX2_duel_29 : decode cX2_duel 29 = .ok (.if_icmp .ge 21, 3) := by decide +kernel
theorem dX2_duel_32 : decode cX2_duel 32 = .ok (.aload_n 0, 1) := by decide +kernel
theorem dX2_duel_33 : decode cX2_duel 33 = .ok (.getfield 69, 3) := by decide +kernel
theorem dX2_duel_36 : decode cX2_duel 36 = .ok (.iload_n 2, 1) := by decide +kernel
theorem dX2_duel_37 : decode cX2_duel 37 = .ok (.aload_n 0, 1) := by decide +kernel
theorem dX2_duel_38 : decode cX2_duel 38 = .ok (.iload_n 2, 1) := by decide +kernel
theorem dX2_duel_39 : decode cX2_duel 39 = .ok (.iload_n 1, 1) := by decide +kernel
theorem dX2_duel_40 : decode cX2_duel 40 = .ok (.invokevirtual 196, 3) := by decide +kernel
theorem dX2_duel_43 : decode cX2_duel 43 = .ok (.iastore, 1) := by decide +kernel
theorem dX2_duel_44 : decode cX2_duel 44 = .ok (.iinc 2 1, 3) := by decide +kernel
theorem dX2_duel_47 : decode cX2_duel 47 = .ok (.goto (-24), 3) := by decide +kernel
theorem dX2_duel_50 : decode cX2_duel 50 = .ok (.iload_n 1, 1) := by decide +kernel
theorem dX2_duel_51 : decode cX2_duel 51 = .ok (.iconst 1, 1) := by decide +kernel
theorem dX2_duel_52 : decode cX2_duel 52 = .ok (.isub, 1) := by decide +kernel
theorem dX2_duel_53 : decode cX2_duel 53 = .ok (.istore_n 2, 1) := by decide +kernel
theorem dX2_duel_54 : decode cX2_duel 54 = .ok (.iload_n 2, 1) := by decide +kernel
theorem dX2_duel_55 : decode cX2_duel 55 = .ok (.ifCond .lt 112, 3) := by decide +kernel
theorem dX2_duel_58 : decode cX2_duel 58 = .ok (.iconst 0, 1) := by decide +kernel
theorem dX2_duel_59 : decode cX2_duel 59 = .ok (.istore_n 3, 1) := by decide +kernel
theorem dX2_duel_60 : decode cX2_duel 60 = .ok (.iload_n 3, 1) := by decide +kernel
theorem dX2_duel_61 : decode cX2_duel 61 = .ok (.iconst 1, 1) := by decide +kernel
theorem dX2_duel_62 : decode cX2_duel 62 = .ok (.iconst 3, 1) := by decide +kernel
theorem dX2_duel_63 : decode cX2_duel 63 = .ok (.iload_n 2, 1) := by decide +kernel
theorem dX2_duel_64 : decode cX2_duel 64 = .ok (.imul, 1) := by decide +kernel
theorem dX2_duel_65 : decode cX2_duel 65 = .ok (.ishl, 1) := by decide +kernel
theorem dX2_duel_66 : decode cX2_duel 66 = .ok (.if_icmp .ge 95, 3) := by decide +kernel
theorem dX2_duel_69 : decode cX2_duel 69 = .ok (.aload_n 0, 1) := by decide +kernel
theorem dX2_duel_70 : decode cX2_duel 70 = .ok (.getfield 69, 3) := by decide +kernel
theorem dX2_duel_73 : decode cX2_duel 73 = .ok (.bipush 8, 2) := by decide +kernel
theorem dX2_duel_75 : decode cX2_duel 75 = .ok (.iload_n 3, 1) := by decide +kernel
theorem dX2_duel_76 : decode cX2_duel 76 = .ok (.imul, 1) := by decide +kernel
theorem dX2_duel_77 : decode cX2_duel 77 = .ok (.iaload, 1) := by decide +kernel
theorem dX2_duel_78 : decode cX2_duel 78 = .ok (.istore 4, 2) := by decide +kernel
theorem dX2_duel_80 : decode cX2_duel 80 = .ok (.iconst 1, 1) := by decide +kernel
theorem dX2_duel_81 : decode cX2_duel 81 = .ok (.istore 5, 2) := by decide +kernel
theorem dX2_duel_83 : decode cX2_duel 83 = .ok (.iload 5, 2) := by decide +kernel
theorem dX2_duel_85 : decode cX2_duel 85 = .ok (.aload_n 0, 1) := by decide +kernel
theorem dX2_duel_86 : decode cX2_duel 86 = .ok (.getfield 79, 3) := by decide +kernel
theorem dX2_duel_89 : decode cX2_duel 89 = .ok (.if_icmp .gt 58, 3) := by decide +kernel
theorem dX2_duel_92 : decode cX2_duel 92 = .ok (.aload_n 0, 1) := by decide +kernel
theorem dX2_duel_93 : decode cX2_duel 93 = .ok (.getfield 69, 3) := by decide +kernel
theorem dX2_duel_96 : decode cX2_duel 96 = .ok (.bipush 8, 2) := by decide +kernel
theorem dX2_duel_98 : decode cX2_duel 98 = .ok (.iload_n 3, 1) := by decide +kernel
theorem dX2_duel_99 : decode cX2_duel 99 = .ok (.imul, 1) := by decide +kernel
theorem dX2_duel_100 : decode cX2_duel 100 = .ok (.iload 5, 2) := by decide +kernel
theorem dX2_duel_102 : decode cX2_duel 102 = .ok (.iadd, 1) := by decide +kernel
theorem dX2_duel_103 : decode cX2_duel 103 = .ok (.iaload, 1) := by decide +kernel
theorem dX2_duel_104 : decode cX2_duel 104 = .ok (.istore 6, 2) := by decide +kernel
theorem dX2_duel_106 : decode cX2_duel 106 = .ok (.iload_n 2, 1) := by decide +kernel
theorem dX2_duel_107 : decode cX2_duel 107 = .ok (.iconst 2, 1) := by decide +kernel
theorem dX2_duel_108 : decode cX2_duel 108 = .ok (.irem, 1) := by decide +kernel
theorem dX2_duel_109 : decode cX2_duel 109 = .ok (.ifCond .ne 7, 3) := by decide +kernel
theorem dX2_duel_112 : decode cX2_duel 112 = .ok (.iconst 1, 1) := by decide +kernel
theorem dX2_duel_113 : decode cX2_duel 113 = .ok (.goto 4, 3) := by decide +kernel
theorem dX2_duel_116 : decode cX2_duel 116 = .ok (.iconst 0, 1) := by decide +kernel
theorem dX2_duel_117 : decode cX2_duel 117 = .ok (.iload 6, 2) := by decide +kernel
theorem dX2_duel_119 : decode cX2_duel 119 = .ok (.iload 4, 2) := by decide +kernel
theorem dX2_duel_121 : decode cX2_duel 121 = .ok (.if_icmp .le 7, 3) := by decide +kernel
theorem dX2_duel_124 : decode cX2_duel 124 = .ok (.iconst 1, 1) := by decide +kernel
theorem dX2_duel_125 : decode cX2_duel 125 = .ok (.goto 4, 3) := by decide +kernel
theorem dX2_duel_128 : decode cX2_duel 128 = .ok (.iconst 0, 1) := by decide +kernel
theorem dX2_duel_129 : decode cX2_duel 129 = .ok (.if_icmp .ne 8, 3) := by decide +kernel
theorem dX2_duel_132 : decode cX2_duel 132 = .ok (.iload 6, 2) := by decide +kernel
theorem dX2_duel_134 : decode cX2_duel 134 = .ok (.goto 5, 3) := by decide +kernel
theorem dX2_duel_137 : decode cX2_duel 137 = .ok (.iload 4, 2) := by decide +kernel
theorem dX2_duel_139 : decode cX2_duel 139 = .ok (.istore 4, 2) := by decide +kernel
theorem dX2_duel_141 : decode cX2_duel 141 = .ok (.iinc 5 1, 3) := by decide +kernel
theorem dX2_duel_144 : decode cX2_duel 144 = .ok (.goto (-61), 3) := by decide +kernel
theorem dX2_duel_147 : decode cX2_duel 147 = .ok (.aload_n 0, 1) := by decide +kernel
theorem dX2_duel_148 : decode cX2_duel 148 = .ok (.getfield 69, 3) := by decide +kernel
theorem dX2_duel_151 : decode cX2_duel 151 = .ok (.iload_n 3, 1) := by decide +kernel
theorem dX2_duel_152 : decode cX2_duel 152 = .ok (.iload 4, 2) := by decide +kernel
theorem dX2_duel_154 : decode cX2_duel 154 = .ok (.iastore, 1) := by decide +kernel
theorem dX2_duel_155 : decode cX2_duel 155 = .ok (.iinc 3 1, 3) := by decide +kernel
theorem dX2_duel_158 : decode cX2_duel 158 = .ok (.goto (-98), 3) := by decide +kernel
theorem dX2_duel_161 : decode cX2_duel 161 = .ok (.iinc 2 (-1), 3) := by decide +kernel
theorem dX2_duel_164 : decode cX2_duel 164 = .ok (.goto (-110), 3) := by decide +kernel
theorem dX2_duel_167 : decode cX2_duel 167 = .ok (.aload_n 0, 1) := by decide +kernel
theorem dX2_duel_168 : decode cX2_duel 168 = .ok (.getfield 69, 3) := by decide +kernel
theorem dX2_duel_171 : decode cX2_duel 171 = .ok (.iconst 0, 1) := by decide +kernel
theorem dX2_duel_172 : decode cX2_duel 172 = .ok (.iaload, 1) := by decide +kernel
theorem dX2_duel_173 : decode cX2_duel 173 = .ok (.ireturn, 1) := by decide +kernel
theorem dX2_common_0 : decode cX2_common 0 = .ok (.lload_n 0, 1) := by decide +kernel
theorem dX2_common_1 : decode cX2_common 1 = .ok (.lstore 4, 2) := by decide +kernel
theorem dX2_common_3 : decode cX2_common 3 = .ok (.lload_n 2, 1) := by decide +kernel
theorem dX2_common_4 : decode cX2_common 4 = .ok (.lstore 6, 2) := by decide +kernel
theorem dX2_common_6 : decode cX2_common 6 = .ok (.lload 6, 2) := by decide +kernel
theorem dX2_common_8 : decode cX2_common 8 = .ok (.lconst 0, 1) := by decide +kernel
theorem dX2_common_9 : decode cX2_common 9 = .ok (.lcmp, 1) := by decide +kernel
theorem dX2_common_10 : decode cX2_common 10 = .ok (.ifCond .eq 21, 3) := by decide +kernel
theorem dX2_common_13 : decode cX2_common 13 = .ok (.lload 4, 2) := by decide +kernel
theorem dX2_common_15 : decode cX2_common 15 = .ok (.lload 6, 2) := by decide +kernel
theorem dX2_common_17 : decode cX2_common 17 = .ok (.lrem, 1) := by decide +kernel
theorem dX2_common_18 : decode cX2_common 18 = .ok (.lstore 8, 2) := by decide +kernel
theorem dX2_common_20 : decode cX2_common 20 = .ok (.lload 6, 2) := by decide +kernel
theorem dX2_common_22 : decode cX2_common 22 = .ok (.lstore 4, 2) := by decide +kernel
theorem dX2_common_24 : decode cX2_common 24 = .ok (.lload 8, 2) := by decide +kernel
theorem dX2_common_26 : decode cX2_common 26 = .ok (.lstore 6, 2) := by decide +kernel
theorem dX2_common_28 : decode cX2_common 28 = .ok (.goto (-22), 3) := by decide +kernel
theorem dX2_common_31 : decode cX2_common 31 = .ok (.lload 4, 2) := by decide +kernel
theorem dX2_common_33 : decode cX2_common 33 = .ok (.lreturn, 1) := by decide +kernel
theorem dX2_tellsPart_0 : decode cX2_tellsPart 0 = .ok (.lload_n 1, 1) := by decide +kernel
theorem dX2_tellsPart_1 : decode cX2_tellsPart 1 = .ok (.lload_n 3, 1) := by decide +kernel
theorem dX2_tellsPart_2 : decode cX2_tellsPart 2 = .ok (.invokestatic 199, 3) := by decide +kernel
theorem dX2_tellsPart_5 : decode cX2_tellsPart 5 = .ok (.lstore 5, 2) := by decide +kernel
theorem dX2_tellsPart_7 : decode cX2_tellsPart 7 = .ok (.aload_n 0, 1) := by decide +kernel
theorem dX2_tellsPart_8 : decode cX2_tellsPart 8 = .ok (.lload_n 1, 1) := by decide +kernel
theorem dX2_tellsPart_9 : decode cX2_tellsPart 9 = .ok (.lload 5, 2) := by decide +kernel
theorem dX2_tellsPart_11 : decode cX2_tellsPart 11 = .ok (.ldiv, 1) := by decide +kernel
theorem dX2_tellsPart_12 : decode cX2_tellsPart 12 = .ok (.putfield 203, 3) := by decide +kernel
theorem dX2_tellsPart_15 : decode cX2_tellsPart 15 = .ok (.aload_n 0, 1) := by decide +kernel
theorem dX2_tellsPart_16 : decode cX2_tellsPart 16 = .ok (.lload_n 3, 1) := by decide +kernel
theorem dX2_tellsPart_17 : decode cX2_tellsPart 17 = .ok (.lload 5, 2) := by decide +kernel
theorem dX2_tellsPart_19 : decode cX2_tellsPart 19 = .ok (.ldiv, 1) := by decide +kernel
theorem dX2_tellsPart_20 : decode cX2_tellsPart 20 = .ok (.putfield 47, 3) := by decide +kernel
theorem dX2_tellsPart_23 : decode cX2_tellsPart 23 = .ok (.iconst 1, 1) := by decide +kernel
theorem dX2_tellsPart_24 : decode cX2_tellsPart 24 = .ok (.ireturn, 1) := by decide +kernel
theorem dX2_failing_0 : decode cX2_failing 0 = .ok (.lconst 0, 1) := by decide +kernel
theorem dX2_failing_1 : decode cX2_failing 1 = .ok (.lstore 4, 2) := by decide +kernel
theorem dX2_failing_3 : decode cX2_failing 3 = .ok (.lconst 0, 1) := by decide +kernel
theorem dX2_failing_4 : decode cX2_failing 4 = .ok (.lstore 6, 2) := by decide +kernel
theorem dX2_failing_6 : decode cX2_failing 6 = .ok (.iconst 0, 1) := by decide +kernel
theorem dX2_failing_7 : decode cX2_failing 7 = .ok (.istore 8, 2) := by decide +kernel
theorem dX2_failing_9 : decode cX2_failing 9 = .ok (.iload 8, 2) := by decide +kernel
theorem dX2_failing_11 : decode cX2_failing 11 = .ok (.iconst 1, 1) := by decide +kernel
theorem dX2_failing_12 : decode cX2_failing 12 = .ok (.aload_n 0, 1) := by decide +kernel
theorem dX2_failing_13 : decode cX2_failing 13 = .ok (.getfield 79, 3) := by decide +kernel
theorem dX2_failing_16 : decode cX2_failing 16 = .ok (.ishl, 1) := by decide +kernel
theorem dX2_failing_17 : decode cX2_failing 17 = .ok (.if_icmp .ge 158, 3) := by decide +kernel
theorem dX2_failing_20 : decode cX2_failing 20 = .ok (.lconst 1, 1) := by decide +kernel
theorem dX2_failing_21 : decode cX2_failing 21 = .ok (.lstore 9, 2) := by decide +kernel
theorem dX2_failing_23 : decode cX2_failing 23 = .ok (.aload_n 0, 1) := by decide +kernel
theorem dX2_failing_24 : decode cX2_failing 24 = .ok (.invokevirtual 173, 3) := by decide +kernel
theorem dX2_failing_27 : decode cX2_failing 27 = .ok (.iconst 0, 1) := by decide +kernel
theorem dX2_failing_28 : decode cX2_failing 28 = .ok (.istore 11, 2) := by decide +kernel
theorem dX2_failing_30 : decode cX2_failing 30 = .ok (.iload 11, 2) := by decide +kernel
theorem dX2_failing_32 : decode cX2_failing 32 = .ok (.aload_n 0, 1) := by decide +kernel
theorem dX2_failing_33 : decode cX2_failing 33 = .ok (.getfield 79, 3) := by decide +kernel
theorem dX2_failing_36 : decode cX2_failing 36 = .ok (.if_icmp .ge 74, 3) := by decide +kernel
theorem dX2_failing_39 : decode cX2_failing 39 = .ok (.iload 8, 2) := by decide +kernel
theorem dX2_failing_41 : decode cX2_failing 41 = .ok (.iload 11, 2) := by decide +kernel
theorem dX2_failing_43 : decode cX2_failing 43 = .ok (.ishr, 1) := by decide +kernel
theorem dX2_failing_44 : decode cX2_failing 44 = .ok (.iconst 1, 1) := by decide +kernel
theorem dX2_failing_45 : decode cX2_failing 45 = .ok (.iand, 1) := by decide +kernel
theorem dX2_failing_46 : decode cX2_failing 46 = .ok (.iconst 1, 1) := by decide +kernel
theorem dX2_failing_47 : decode cX2_failing 47 = .ok (.if_icmp .ne 7, 3) := by decide +kernel
theorem dX2_failing_50 : decode cX2_failing 50 = .ok (.iconst 1, 1) := by decide +kernel
theorem dX2_failing_51 : decode cX2_failing 51 = .ok (.goto 4, 3) := by decide +kernel
theorem dX2_failing_54 : decode cX2_failing 54 = .ok (.iconst 0, 1) := by decide +kernel
theorem dX2_failing_55 : decode cX2_failing 55 = .ok (.istore 12, 2) := by decide +kernel
theorem dX2_failing_57 : decode cX2_failing 57 = .ok (.lload 9, 2) := by decide +kernel
theorem dX2_failing_59 : decode cX2_failing 59 = .ok (.iload 12, 2) := by decide +kernel
theorem dX2_failing_61 : decode cX2_failing 61 = .ok (.ifCond .eq 8, 3) := by decide +kernel
theorem dX2_failing_64 : decode cX2_failing 64 = .ok (.iload_n 3, 1) := by decide +kernel
theorem dX2_failing_65 : decode cX2_failing 65 = .ok (.i2l, 1) := by decide +kernel
theorem dX2_failing_66 : decode cX2_failing 66 = .ok (.goto 8, 3) := by decide +kernel
theorem dX2_failing_69 : decode cX2_failing 69 = .ok (.bipush 12, 2) := by decide +kernel
theorem dX2_failing_71 : decode cX2_failing 71 = .ok (.iload_n 3, 1) := by decide +kernel
theorem dX2_failing_72 : decode cX2_failing 72 = .ok (.isub, 1) := by decide +kernel
theorem dX2_failing_73 : decode cX2_failing 73 = .ok (.i2l, 1) := by decide +kernel
theorem dX2_failing_74 : decode cX2_failing 74 = .ok (.lmul, 1) := by decide +kernel
theorem dX2_failing_75 : decode cX2_failing 75 = .ok (.lstore 9, 2) := by decide +kernel
theorem dX2_failing_77 : decode cX2_failing 77 = .ok (.aload_n 0, 1) := by decide +kernel
theorem dX2_failing_78 : decode cX2_failing 78 = .ok (.getfield 34, 3) := by decide +kernel
theorem dX2_failing_81 : decode cX2_failing 81 = .ok (.iconst 1, 1) := by decide +kernel
theorem dX2_failing_82 : decode cX2_failing 82 = .ok (.iload 11, 2) := by decide +kernel
theorem dX2_failing_84 : decode cX2_failing 84 = .ok (.iadd, 1) := by decide +kernel
theorem dX2_failing_85 : decode cX2_failing 85 = .ok (.iload 12, 2) := by decide +kernel
theorem dX2_failing_87 : decode cX2_failing 87 = .ok (.ifCond .eq 7, 3) := by decide +kernel
theorem dX2_failing_90 : decode cX2_failing 90 = .ok (.iconst 0, 1) := by decide +kernel
theorem dX2_failing_91 : decode cX2_failing 91 = .ok (.goto 12, 3) := by decide +kernel
theorem dX2_failing_94 : decode cX2_failing 94 = .ok (.aload_n 0, 1) := by decide +kernel
theorem dX2_failing_95 : decode cX2_failing 95 = .ok (.getfield 34, 3) := by decide +kernel
theorem dX2_failing_98 : decode cX2_failing 98 = .ok (.iconst 1, 1) := by decide +kernel
theorem dX2_failing_99 : decode cX2_failing 99 = .ok (.iload 11, 2) := by decide +kernel
theorem dX2_failing_101 : decode cX2_failing 101 = .ok (.iadd, 1) := by decide +kernel
theorem dX2_failing_102 : decode cX2_failing 102 = .ok (.iaload, 1) := by decide +kernel
theorem dX2_failing_103 : decode cX2_failing 103 = .ok (.iastore, 1) := by decide +kernel
theorem dX2_failing_104 : decode cX2_failing 104 = .ok (.iinc 11 1, 3) := by decide +kernel
theorem dX2_failing_107 : decode cX2_failing 107 = .ok (.goto (-77), 3) := by decide +kernel
theorem dX2_failing_110 : decode cX2_failing 110 = .ok (.lload 6, 2) := by decide +kernel
theorem dX2_failing_112 : decode cX2_failing 112 = .ok (.lload 9, 2) := by decide +kernel
theorem dX2_failing_114 : decode cX2_failing 114 = .ok (.ladd, 1) := by decide +kernel
theorem dX2_failing_115 : decode cX2_failing 115 = .ok (.lstore 6, 2) := by decide +kernel
theorem dX2_failing_117 : decode cX2_failing 117 = .ok (.lload 9, 2) := by decide +kernel
theorem dX2_failing_119 : decode cX2_failing 119 = .ok (.lconst 0, 1) := by decide +kernel
theorem dX2_failing_120 : decode cX2_failing 120 = .ok (.lcmp, 1) := by decide +kernel
theorem dX2_failing_121 : decode cX2_failing 121 = .ok (.ifCond .le 48, 3) := by decide +kernel
theorem dX2_failing_124 : decode cX2_failing 124 = .ok (.aload_n 0, 1) := by decide +kernel
theorem dX2_failing_125 : decode cX2_failing 125 = .ok (.iload_n 2, 1) := by decide +kernel
theorem dX2_failing_126 : decode cX2_failing 126 = .ok (.invokevirtual 176, 3) := by decide +kernel
theorem dX2_failing_129 : decode cX2_failing 129 = .ok (.aload_n 0, 1) := by decide +kernel
theorem dX2_failing_130 : decode cX2_failing 130 = .ok (.aload_n 0, 1) := by decide +kernel
theorem dX2_failing_131 : decode cX2_failing 131 = .ok (.getfield 34, 3) := by decide +kernel
theorem dX2_failing_134 : decode cX2_failing 134 = .ok (.invokevirtual 162, 3) := by decide +kernel
theorem dX2_failing_137 : decode cX2_failing 137 = .ok (.istore 11, 2) := by decide +kernel
theorem dX2_failing_139 : decode cX2_failing 139 = .ok (.lload 4, 2) := by decide +kernel
theorem dX2_failing_141 : decode cX2_failing 141 = .ok (.iload_n 1, 1) := by decide +kernel
theorem dX2_failing_142 : decode cX2_failing 142 = .ok (.ifCond .ge 12, 3) := by decide +kernel
theorem dX2_failing_145 : decode cX2_failing 145 = .ok (.lload 9, 2) := by decide +kernel
theorem dX2_failing_147 : decode cX2_failing 147 = .ok (.iload 11, 2) := by decide +kernel
theorem dX2_failing_149 : decode cX2_failing 149 = .ok (.i2l, 1) := by decide +kernel
theorem dX2_failing_150 : decode cX2_failing 150 = .ok (.lmul, 1) := by decide +kernel
theorem dX2_failing_151 : decode cX2_failing 151 = .ok (.goto 15, 3) := by decide +kernel
theorem dX2_failing_154 : decode cX2_failing 154 = .ok (.iload 11, 2) := by decide +kernel
theorem dX2_failing_156 : decode cX2_failing 156 = .ok (.iload_n 1, 1) := by decide +kernel
theorem dX2_failing_157 : decode cX2_failing 157 = .ok (.if_icmp .lt 8, 3) := by decide +kernel
theorem dX2_failing_160 : decode cX2_failing 160 = .ok (.lload 9, 2) := by decide +kernel
theorem dX2_failing_162 : decode cX2_failing 162 = .ok (.goto 4, 3) := by decide +kernel
theorem dX2_failing_165 : decode cX2_failing 165 = .ok (.lconst 0, 1) := by decide +kernel
theorem dX2_failing_166 : decode cX2_failing 166 = .ok (.ladd, 1) := by decide +kernel
theorem dX2_failing_167 : decode cX2_failing 167 = .ok (.lstore 4, 2) := by decide +kernel
theorem dX2_failing_169 : decode cX2_failing 169 = .ok (.iinc 8 1, 3) := by decide +kernel
theorem dX2_failing_172 : decode cX2_failing 172 = .ok (.goto (-163), 3) := by decide +kernel
theorem dX2_failing_175 : decode cX2_failing 175 = .ok (.aload_n 0, 1) := by decide +kernel
theorem dX2_failing_176 : decode cX2_failing 176 = .ok (.lload 4, 2) := by decide +kernel
theorem dX2_failing_178 : decode cX2_failing 178 = .ok (.lload 6, 2) := by decide +kernel
theorem dX2_failing_180 : decode cX2_failing 180 = .ok (.invokevirtual 206, 3) := by decide +kernel
theorem dX2_failing_183 : decode cX2_failing 183 = .ok (.ireturn, 1) := by decide +kernel
theorem dX2_odds_0 : decode cX2_odds 0 = .ok (.iload_n 1, 1) := by decide +kernel
theorem dX2_odds_1 : decode cX2_odds 1 = .ok (.iconst 0, 1) := by decide +kernel
theorem dX2_odds_2 : decode cX2_odds 2 = .ok (.bipush 63, 2) := by decide +kernel
theorem dX2_odds_4 : decode cX2_odds 4 = .ok (.invokestatic 82, 3) := by decide +kernel
theorem dX2_odds_7 : decode cX2_odds 7 = .ok (.ifCond .eq 23, 3) := by decide +kernel
theorem dX2_odds_10 : decode cX2_odds 10 = .ok (.iload_n 2, 1) := by decide +kernel
theorem dX2_odds_11 : decode cX2_odds 11 = .ok (.iconst 0, 1) := by decide +kernel
theorem dX2_odds_12 : decode cX2_odds 12 = .ok (.bipush 20, 2) := by decide +kernel
theorem dX2_odds_14 : decode cX2_odds 14 = .ok (.invokestatic 82, 3) := by decide +kernel
theorem dX2_odds_17 : decode cX2_odds 17 = .ok (.ifCond .eq 13, 3) := by decide +kernel
theorem dX2_odds_20 : decode cX2_odds 20 = .ok (.iload_n 3, 1) := by decide +kernel
theorem dX2_odds_21 : decode cX2_odds 21 = .ok (.iconst 0, 1) := by decide +kernel
theorem dX2_odds_22 : decode cX2_odds 22 = .ok (.bipush 12, 2) := by decide +kernel
theorem dX2_odds_24 : decode cX2_odds 24 = .ok (.invokestatic 82, 3) := by decide +kernel
theorem dX2_odds_27 : decode cX2_odds 27 = .ok (.ifCond .ne 5, 3) := by decide +kernel
theorem dX2_odds_30 : decode cX2_odds 30 = .ok (.iconst (-1), 1) := by decide +kernel
theorem dX2_odds_31 : decode cX2_odds 31 = .ok (.ireturn, 1) := by decide +kernel
theorem dX2_odds_32 : decode cX2_odds 32 = .ok (.aload_n 0, 1) := by decide +kernel
theorem dX2_odds_33 : decode cX2_odds 33 = .ok (.getfield 79, 3) := by decide +kernel
theorem dX2_odds_36 : decode cX2_odds 36 = .ok (.ifCond .ne 8, 3) := by decide +kernel
theorem dX2_odds_39 : decode cX2_odds 39 = .ok (.bipush (-4), 2) := by decide +kernel
theorem dX2_odds_41 : decode cX2_odds 41 = .ok (.goto 10, 3) := by decide +kernel
theorem dX2_odds_44 : decode cX2_odds 44 = .ok (.aload_n 0, 1) := by decide +kernel
theorem dX2_odds_45 : decode cX2_odds 45 = .ok (.iload_n 1, 1) := by decide +kernel
theorem dX2_odds_46 : decode cX2_odds 46 = .ok (.iload_n 2, 1) := by decide +kernel
theorem dX2_odds_47 : decode cX2_odds 47 = .ok (.iload_n 3, 1) := by decide +kernel
theorem dX2_odds_48 : decode cX2_odds 48 = .ok (.invokevirtual 210, 3) := by decide +kernel
theorem dX2_odds_51 : decode cX2_odds 51 = .ok (.ireturn, 1) := by decide +kernel
theorem dX2_mid_0 : decode cX2_mid 0 = .ok (.iload_n 1, 1) := by decide +kernel
theorem dX2_mid_1 : decode cX2_mid 1 = .ok (.iconst 0, 1) := by decide +kernel
theorem dX2_mid_2 : decode cX2_mid 2 = .ok (.bipush 20, 2) := by decide +kernel
theorem dX2_mid_4 : decode cX2_mid 4 = .ok (.invokestatic 82, 3) := by decide +kernel
theorem dX2_mid_7 : decode cX2_mid 7 = .ok (.ifCond .eq 13, 3) := by decide +kernel
theorem dX2_mid_10 : decode cX2_mid 10 = .ok (.iload_n 2, 1) := by decide +kernel
theorem dX2_mid_11 : decode cX2_mid 11 = .ok (.iconst 0, 1) := by decide +kernel
theorem dX2_mid_12 : decode cX2_mid 12 = .ok (.bipush 12, 2) := by decide +kernel
theorem dX2_mid_14 : decode cX2_mid 14 = .ok (.invokestatic 82, 3) := by decide +kernel
theorem dX2_mid_17 : decode cX2_mid 17 = .ok (.ifCond .ne 5, 3) := by decide +kernel
theorem dX2_mid_20 : decode cX2_mid 20 = .ok (.iconst (-1), 1) := by decide +kernel
theorem dX2_mid_21 : decode cX2_mid 21 = .ok (.ireturn, 1) := by decide +kernel
theorem dX2_mid_22 : decode cX2_mid 22 = .ok (.aload_n 0, 1) := by decide +kernel
theorem dX2_mid_23 : decode cX2_mid 23 = .ok (.getfield 79, 3) := by decide +kernel
theorem dX2_mid_26 : decode cX2_mid 26 = .ok (.ifCond .ne 8, 3) := by decide +kernel
theorem dX2_mid_29 : decode cX2_mid 29 = .ok (.bipush (-4), 2) := by decide +kernel
theorem dX2_mid_31 : decode cX2_mid 31 = .ok (.goto 10, 3) := by decide +kernel
theorem dX2_mid_34 : decode cX2_mid 34 = .ok (.aload_n 0, 1) := by decide +kernel
theorem dX2_mid_35 : decode cX2_mid 35 = .ok (.iconst (-1), 1) := by decide +kernel
theorem dX2_mid_36 : decode cX2_mid 36 = .ok (.iload_n 1, 1) := by decide +kernel
theorem dX2_mid_37 : decode cX2_mid 37 = .ok (.iload_n 2, 1) := by decide +kernel
theorem dX2_mid_38 : decode cX2_mid 38 = .ok (.invokevirtual 210, 3) := by decide +kernel
theorem dX2_mid_41 : decode cX2_mid 41 = .ok (.ireturn, 1) := by decide +kernel
theorem dX2_lot_0 : decode cX2_lot 0 = .ok (.iload_n 1, 1) := by decide +kernel
theorem dX2_lot_1 : decode cX2_lot 1 = .ok (.bipush 8, 2) := by decide +kernel
theorem dX2_lot_3 : decode cX2_lot 3 = .ok (.idiv, 1) := by decide +kernel
theorem dX2_lot_4 : decode cX2_lot 4 = .ok (.aload_n 0, 1) := by decide +kernel
theorem dX2_lot_5 : decode cX2_lot 5 = .ok (.getfield 79, 3) := by decide +kernel
theorem dX2_lot_8 : decode cX2_lot 8 = .ok (.irem, 1) := by decide +kernel
theorem dX2_lot_9 : decode cX2_lot 9 = .ok (.istore_n 2, 1) := by decide +kernel
theorem dX2_lot_10 : decode cX2_lot 10 = .ok (.aload_n 0, 1) := by decide +kernel
theorem dX2_lot_11 : decode cX2_lot 11 = .ok (.invokevirtual 155, 3) := by decide +kernel
theorem dX2_lot_14 : decode cX2_lot 14 = .ok (.iload_n 1, 1) := by decide +kernel
theorem dX2_lot_15 : decode cX2_lot 15 = .ok (.bipush 8, 2) := by decide +kernel
theorem dX2_lot_17 : decode cX2_lot 17 = .ok (.irem, 1) := by decide +kernel
theorem dX2_lot_18 : decode cX2_lot 18 = .ok (.ifCond .ne 22, 3) := by decide +kernel
theorem dX2_lot_21 : decode cX2_lot 21 = .ok (.aload_n 0, 1) := by decide +kernel
theorem dX2_lot_22 : decode cX2_lot 22 = .ok (.getfield 31, 3) := by decide +kernel
theorem dX2_lot_25 : decode cX2_lot 25 = .ok (.iload_n 2, 1) := by decide +kernel
theorem dX2_lot_26 : decode cX2_lot 26 = .ok (.iload_n 2, 1) := by decide +kernel
theorem dX2_lot_27 : decode cX2_lot 27 = .ok (.iconst 1, 1) := by decide +kernel
theorem dX2_lot_28 : decode cX2_lot 28 = .ok (.iadd, 1) := by decide +kernel
theorem dX2_lot_29 : decode cX2_lot 29 = .ok (.aload_n 0, 1) := by decide +kernel
theorem dX2_lot_30 : decode cX2_lot 30 = .ok (.getfield 79, 3) := by decide +kernel
theorem dX2_lot_33 : decode cX2_lot 33 = .ok (.irem, 1) := by decide +kernel
theorem dX2_lot_34 : decode cX2_lot 34 = .ok (.invokestatic 166, 3) := by decide +kernel
theorem dX2_lot_37 : decode cX2_lot 37 = .ok (.goto 57, 3) := by decide +kernel
theorem dX2_lot_40 : decode cX2_lot 40 = .ok (.iload_n 1, 1) := by decide +kernel
theorem dX2_lot_41 : decode cX2_lot 41 = .ok (.bipush 8, 2) := by decide +kernel
theorem dX2_lot_43 : decode cX2_lot 43 = .ok (.irem, 1) := by decide +kernel
theorem dX2_lot_44 : decode cX2_lot 44 = .ok (.iconst 4, 1) := by decide +kernel
theorem dX2_lot_45 : decode cX2_lot 45 = .ok (.if_icmp .ge 30, 3) := by decide +kernel
theorem dX2_lot_48 : decode cX2_lot 48 = .ok (.aload_n 0, 1) := by decide +kernel
theorem dX2_lot_49 : decode cX2_lot 49 = .ok (.getfield 31, 3) := by decide +kernel
theorem dX2_lot_52 : decode cX2_lot 52 = .ok (.iconst 1, 1) := by decide +kernel
theorem dX2_lot_53 : decode cX2_lot 53 = .ok (.iload_n 2, 1) := by decide +kernel
theorem dX2_lot_54 : decode cX2_lot 54 = .ok (.iadd, 1) := by decide +kernel
theorem dX2_lot_55 : decode cX2_lot 55 = .ok (.dup2, 1) := by decide +kernel
theorem dX2_lot_56 : decode cX2_lot 56 = .ok (.iaload, 1) := by decide +kernel
theorem dX2_lot_57 : decode cX2_lot 57 = .ok (.iconst 1, 1) := by decide +kernel
theorem dX2_lot_58 : decode cX2_lot 58 = .ok (.iload_n 1, 1) := by decide +kernel
theorem dX2_lot_59 : decode cX2_lot 59 = .ok (.bipush 64, 2) := by decide +kernel
theorem dX2_lot_61 : decode cX2_lot 61 = .ok (.idiv, 1) := by decide +kernel
theorem dX2_lot_62 : decode cX2_lot 62 = .ok (.aload_n 0, 1) := by decide +kernel
theorem dX2_lot_63 : decode cX2_lot 63 = .ok (.getfield 25, 3) := by decide +kernel
theorem dX2_lot_66 : decode cX2_lot 66 = .ok (.iload_n 2, 1) := by decide +kernel
theorem dX2_lot_67 : decode cX2_lot 67 = .ok (.iaload, 1) := by decide +kernel
theorem dX2_lot_68 : decode cX2_lot 68 = .ok (.irem, 1) := by decide +kernel
theorem dX2_lot_69 : decode cX2_lot 69 = .ok (.ishl, 1) := by decide +kernel
theorem dX2_lot_70 : decode cX2_lot 70 = .ok (.ixor, 1) := by decide +kernel
theorem dX2_lot_71 : decode cX2_lot 71 = .ok (.iastore, 1) := by decide +kernel
theorem dX2_lot_72 : decode cX2_lot 72 = .ok (.goto 22, 3) := by decide +kernel
theorem dX2_lot_75 : decode cX2_lot 75 = .ok (.aload_n 0, 1) := by decide +kernel
theorem dX2_lot_76 : decode cX2_lot 76 = .ok (.getfield 31, 3) := by decide +kernel
theorem dX2_lot_79 : decode cX2_lot 79 = .ok (.iconst 0, 1) := by decide +kernel
theorem dX2_lot_80 : decode cX2_lot 80 = .ok (.iaload, 1) := by decide +kernel
theorem dX2_lot_81 : decode cX2_lot 81 = .ok (.bipush 99, 2) := by decide +kernel
theorem dX2_lot_83 : decode cX2_lot 83 = .ok (.if_icmp .ge 11, 3) := by decide +kernel
theorem dX2_lot_86 : decode cX2_lot 86 = .ok (.aload_n 0, 1) := by decide +kernel
theorem dX2_lot_87 : decode cX2_lot 87 = .ok (.aload_n 0, 1) := by decide +kernel
theorem dX2_lot_88 : decode cX2_lot 88 = .ok (.getfield 31, 3) := by decide +kernel
theorem dX2_lot_91 : decode cX2_lot 91 = .ok (.invokevirtual 158, 3) := by decide +kernel
theorem dX2_lot_94 : decode cX2_lot 94 = .ok (.return_, 1) := by decide +kernel
theorem dX2_lots_0 : decode cX2_lots 0 = .ok (.iload_n 1, 1) := by decide +kernel
theorem dX2_lots_1 : decode cX2_lots 1 = .ok (.iconst 1, 1) := by decide +kernel
theorem dX2_lots_2 : decode cX2_lots 2 = .ok (.bipush 20, 2) := by decide +kernel
theorem dX2_lots_4 : decode cX2_lots 4 = .ok (.invokestatic 82, 3) := by decide +kernel
theorem dX2_lots_7 : decode cX2_lots 7 = .ok (.ifCond .eq 13, 3) := by decide +kernel
theorem dX2_lots_10 : decode cX2_lots 10 = .ok (.iload_n 2, 1) := by decide +kernel
theorem dX2_lots_11 : decode cX2_lots 11 = .ok (.iconst 1, 1) := by decide +kernel
theorem dX2_lots_12 : decode cX2_lots 12 = .ok (.ldc 213, 2) := by decide +kernel
theorem dX2_lots_14 : decode cX2_lots 14 = .ok (.invokestatic 82, 3) := by decide +kernel
theorem dX2_lots_17 : decode cX2_lots 17 = .ok (.ifCond .ne 5, 3) := by decide +kernel
theorem dX2_lots_20 : decode cX2_lots 20 = .ok (.iconst (-1), 1) := by decide +kernel
theorem dX2_lots_21 : decode cX2_lots 21 = .ok (.ireturn, 1) := by decide +kernel
theorem dX2_lots_22 : decode cX2_lots 22 = .ok (.aload_n 0, 1) := by decide +kernel
theorem dX2_lots_23 : decode cX2_lots 23 = .ok (.getfield 79, 3) := by decide +kernel
theorem dX2_lots_26 : decode cX2_lots 26 = .ok (.ifCond .ne 6, 3) := by decide +kernel
theorem dX2_lots_29 : decode cX2_lots 29 = .ok (.bipush (-4), 2) := by decide +kernel
theorem dX2_lots_31 : decode cX2_lots 31 = .ok (.ireturn, 1) := by decide +kernel
theorem dX2_lots_32 : decode cX2_lots 32 = .ok (.aload_n 0, 1) := by decide +kernel
theorem dX2_lots_33 : decode cX2_lots 33 = .ok (.getfield 121, 3) := by decide +kernel
theorem dX2_lots_36 : decode cX2_lots 36 = .ok (.iload_n 1, 1) := by decide +kernel
theorem dX2_lots_37 : decode cX2_lots 37 = .ok (.iadd, 1) := by decide +kernel
theorem dX2_lots_38 : decode cX2_lots 38 = .ok (.bipush 40, 2) := by decide +kernel
theorem dX2_lots_40 : decode cX2_lots 40 = .ok (.if_icmp .le 6, 3) := by decide +kernel
theorem dX2_lots_43 : decode cX2_lots 43 = .ok (.bipush (-2), 2) := by decide +kernel
theorem dX2_lots_45 : decode cX2_lots 45 = .ok (.ireturn, 1) := by decide +kernel
theorem dX2_lots_46 : decode cX2_lots 46 = .ok (.iload_n 2, 1) := by decide +kernel
theorem dX2_lots_47 : decode cX2_lots 47 = .ok (.i2l, 1) := by decide +kernel
theorem dX2_lots_48 : decode cX2_lots 48 = .ok (.lstore_n 3, 1) := by decide +kernel
theorem dX2_lots_49 : decode cX2_lots 49 = .ok (.iconst 0, 1) := by decide +kernel
theorem dX2_lots_50 : decode cX2_lots 50 = .ok (.istore 5, 2) := by decide +kernel
theorem dX2_lots_52 : decode cX2_lots 52 = .ok (.iload 5, 2) := by decide +kernel
theorem dX2_lots_54 : decode cX2_lots 54 = .ok (.iload_n 1, 1) := by decide +kernel
theorem dX2_lots_55 : decode cX2_lots 55 = .ok (.if_icmp .ge 25, 3) := by decide +kernel
theorem dX2_lots_58 : decode cX2_lots 58 = .ok (.lload_n 3, 1) := by decide +kernel
theorem dX2_lots_59 : decode cX2_lots 59 = .ok (.ldc2_w 214, 3) := by decide +kernel
theorem dX2_lots_62 : decode cX2_lots 62 = .ok (.lmul, 1) := by decide +kernel
theorem dX2_lots_63 : decode cX2_lots 63 = .ok (.ldc2_w 216, 3) := by decide +kernel
theorem dX2_lots_66 : decode cX2_lots 66 = .ok (.lrem, 1) := by decide +kernel
theorem dX2_lots_67 : decode cX2_lots 67 = .ok (.lstore_n 3, 1) := by decide +kernel
theorem dX2_lots_68 : decode cX2_lots 68 = .ok (.aload_n 0, 1) := by decide +kernel
theorem dX2_lots_69 : decode cX2_lots 69 = .ok (.lload_n 3, 1) := by decide +kernel
theorem dX2_lots_70 : decode cX2_lots 70 = .ok (.l2i, 1) := by decide +kernel
theorem dX2_lots_71 : decode cX2_lots 71 = .ok (.invokevirtual 218, 3) := by decide +kernel
theorem dX2_lots_74 : decode cX2_lots 74 = .ok (.iinc 5 1, 3) := by decide +kernel
theorem dX2_lots_77 : decode cX2_lots 77 = .ok (.goto (-25), 3) := by decide +kernel
theorem dX2_lots_80 : decode cX2_lots 80 = .ok (.aload_n 0, 1) := by decide +kernel
theorem dX2_lots_81 : decode cX2_lots 81 = .ok (.aload_n 0, 1) := by decide +kernel
theorem dX2_lots_82 : decode cX2_lots 82 = .ok (.getfield 31, 3) := by decide +kernel
theorem dX2_lots_85 : decode cX2_lots 85 = .ok (.invokevirtual 162, 3) := by decide +kernel
theorem dX2_lots_88 : decode cX2_lots 88 = .ok (.ireturn, 1) := by decide +kernel
theorem dX2_asked_0 : decode cX2_asked 0 = .ok (.aload_n 0, 1) := by decide +kernel
theorem dX2_asked_1 : decode cX2_asked 1 = .ok (.getfield 76, 3) := by decide +kernel
theorem dX2_asked_4 : decode cX2_asked 4 = .ok (.ireturn, 1) := by decide +kernel
theorem dX2_upper_0 : decode cX2_upper 0 = .ok (.aload_n 0, 1) := by decide +kernel
theorem dX2_upper_1 : decode cX2_upper 1 = .ok (.getfield 203, 3) := by decide +kernel
theorem dX2_upper_4 : decode cX2_upper 4 = .ok (.lreturn, 1) := by decide +kernel
theorem dX2_lower_0 : decode cX2_lower 0 = .ok (.aload_n 0, 1) := by decide +kernel
theorem dX2_lower_1 : decode cX2_lower 1 = .ok (.getfield 47, 3) := by decide +kernel
theorem dX2_lower_4 : decode cX2_lower 4 = .ok (.lreturn, 1) := by decide +kernel
theorem dX2_slots_0 : decode cX2_slots 0 = .ok (.iconst 0, 1) := by decide +kernel
theorem dX2_slots_1 : decode cX2_slots 1 = .ok (.istore_n 1, 1) := by decide +kernel
theorem dX2_slots_2 : decode cX2_slots 2 = .ok (.iconst 0, 1) := by decide +kernel
theorem dX2_slots_3 : decode cX2_slots 3 = .ok (.istore_n 2, 1) := by decide +kernel
theorem dX2_slots_4 : decode cX2_slots 4 = .ok (.iload_n 2, 1) := by decide +kernel
theorem dX2_slots_5 : decode cX2_slots 5 = .ok (.aload_n 0, 1) := by decide +kernel
theorem dX2_slots_6 : decode cX2_slots 6 = .ok (.getfield 79, 3) := by decide +kernel
theorem dX2_slots_9 : decode cX2_slots 9 = .ok (.if_icmp .ge 18, 3) := by decide +kernel
theorem dX2_slots_12 : decode cX2_slots 12 = .ok (.iload_n 1, 1) := by decide +kernel
theorem dX2_slots_13 : decode cX2_slots 13 = .ok (.aload_n 0, 1) := by decide +kernel
theorem dX2_slots_14 : decode cX2_slots 14 = .ok (.getfield 25, 3) := by decide +kernel
theorem dX2_slots_17 : decode cX2_slots 17 = .ok (.iload_n 2, 1) := by decide +kernel
theorem dX2_slots_18 : decode cX2_slots 18 = .ok (.iaload, 1) := by decide +kernel
theorem dX2_slots_19 : decode cX2_slots 19 = .ok (.iadd, 1) := by decide +kernel
theorem dX2_slots_20 : decode cX2_slots 20 = .ok (.istore_n 1, 1) := by decide +kernel
theorem dX2_slots_21 : decode cX2_slots 21 = .ok (.iinc 2 1, 3) := by decide +kernel
theorem dX2_slots_24 : decode cX2_slots 24 = .ok (.goto (-20), 3) := by decide +kernel
theorem dX2_slots_27 : decode cX2_slots 27 = .ok (.iload_n 1, 1) := by decide +kernel
theorem dX2_slots_28 : decode cX2_slots 28 = .ok (.ireturn, 1) := by decide +kernel
theorem dX2_empties_0 : decode cX2_empties 0 = .ok (.iconst 0, 1) := by decide +kernel
theorem dX2_empties_1 : decode cX2_empties 1 = .ok (.istore_n 1, 1) := by decide +kernel
theorem dX2_empties_2 : decode cX2_empties 2 = .ok (.iconst 0, 1) := by decide +kernel
theorem dX2_empties_3 : decode cX2_empties 3 = .ok (.istore_n 2, 1) := by decide +kernel
theorem dX2_empties_4 : decode cX2_empties 4 = .ok (.iload_n 2, 1) := by decide +kernel
theorem dX2_empties_5 : decode cX2_empties 5 = .ok (.aload_n 0, 1) := by decide +kernel
theorem dX2_empties_6 : decode cX2_empties 6 = .ok (.getfield 79, 3) := by decide +kernel
theorem dX2_empties_9 : decode cX2_empties 9 = .ok (.if_icmp .ge 30, 3) := by decide +kernel
theorem dX2_empties_12 : decode cX2_empties 12 = .ok (.iload_n 1, 1) := by decide +kernel
theorem dX2_empties_13 : decode cX2_empties 13 = .ok (.aload_n 0, 1) := by decide +kernel
theorem dX2_empties_14 : decode cX2_empties 14 = .ok (.getfield 31, 3) := by decide +kernel
theorem dX2_empties_17 : decode cX2_empties 17 = .ok (.iconst 1, 1) := by decide +kernel
theorem dX2_empties_18 : decode cX2_empties 18 = .ok (.iload_n 2, 1) := by decide +kernel
theorem dX2_empties_19 : decode cX2_empties 19 = .ok (.iadd, 1) := by decide +kernel
theorem dX2_empties_20 : decode cX2_empties 20 = .ok (.iaload, 1) := by decide +kernel
theorem dX2_empties_21 : decode cX2_empties 21 = .ok (.ifCond .ne 9, 3) := by decide +kernel
theorem dX2_empties_24 : decode cX2_empties 24 = .ok (.iconst 1, 1) := by decide +kernel
theorem dX2_empties_25 : decode cX2_empties 25 = .ok (.iload_n 2, 1) := by decide +kernel
theorem dX2_empties_26 : decode cX2_empties 26 = .ok (.ishl, 1) := by decide +kernel
theorem dX2_empties_27 : decode cX2_empties 27 = .ok (.goto 4, 3) := by decide +kernel
theorem dX2_empties_30 : decode cX2_empties 30 = .ok (.iconst 0, 1) := by decide +kernel
theorem dX2_empties_31 : decode cX2_empties 31 = .ok (.ior, 1) := by decide +kernel
theorem dX2_empties_32 : decode cX2_empties 32 = .ok (.istore_n 1, 1) := by decide +kernel
theorem dX2_empties_33 : decode cX2_empties 33 = .ok (.iinc 2 1, 3) := by decide +kernel
theorem dX2_empties_36 : decode cX2_empties 36 = .ok (.goto (-32), 3) := by decide +kernel
theorem dX2_empties_39 : decode cX2_empties 39 = .ok (.iload_n 1, 1) := by decide +kernel
theorem dX2_empties_40 : decode cX2_empties 40 = .ok (.ireturn, 1) := by decide +kernel
theorem dX2_there_0 : decode cX2_there 0 = .ok (.iconst 0, 1) := by decide +kernel
theorem dX2_there_1 : decode cX2_there 1 = .ok (.istore_n 1, 1) := by decide +kernel
theorem dX2_there_2 : decode cX2_there 2 = .ok (.iconst 0, 1) := by decide +kernel
theorem dX2_there_3 : decode cX2_there 3 = .ok (.istore_n 2, 1) := by decide +kernel
theorem dX2_there_4 : decode cX2_there 4 = .ok (.iload_n 2, 1) := by decide +kernel
theorem dX2_there_5 : decode cX2_there 5 = .ok (.aload_n 0, 1) := by decide +kernel
theorem dX2_there_6 : decode cX2_there 6 = .ok (.arraylength, 1) := by decide +kernel
theorem dX2_there_7 : decode cX2_there 7 = .ok (.if_icmp .ge 23, 3) := by decide +kernel
theorem dX2_there_10 : decode cX2_there 10 = .ok (.iload_n 1, 1) := by decide +kernel
theorem dX2_there_11 : decode cX2_there 11 = .ok (.aload_n 0, 1) := by decide +kernel
theorem dX2_there_12 : decode cX2_there 12 = .ok (.iload_n 2, 1) := by decide +kernel
theorem dX2_there_13 : decode cX2_there 13 = .ok (.iaload, 1) := by decide +kernel
theorem dX2_there_14 : decode cX2_there 14 = .ok (.ifCond .ge 7, 3) := by decide +kernel
theorem dX2_there_17 : decode cX2_there 17 = .ok (.iconst 0, 1) := by decide +kernel
theorem dX2_there_18 : decode cX2_there 18 = .ok (.goto 4, 3) := by decide +kernel
theorem dX2_there_21 : decode cX2_there 21 = .ok (.iconst 1, 1) := by decide +kernel
theorem dX2_there_22 : decode cX2_there 22 = .ok (.iadd, 1) := by decide +kernel
theorem dX2_there_23 : decode cX2_there 23 = .ok (.istore_n 1, 1) := by decide +kernel
theorem dX2_there_24 : decode cX2_there 24 = .ok (.iinc 2 1, 3) := by decide +kernel
theorem dX2_there_27 : decode cX2_there 27 = .ok (.goto (-23), 3) := by decide +kernel
theorem dX2_there_30 : decode cX2_there 30 = .ok (.iload_n 1, 1) := by decide +kernel
theorem dX2_there_31 : decode cX2_there 31 = .ok (.ireturn, 1) := by decide +kernel
theorem dX2_keptMany_0 : decode cX2_keptMany 0 = .ok (.iconst 0, 1) := by decide +kernel
theorem dX2_keptMany_1 : decode cX2_keptMany 1 = .ok (.istore_n 1, 1) := by decide +kernel
theorem dX2_keptMany_2 : decode cX2_keptMany 2 = .ok (.iconst 0, 1) := by decide +kernel
theorem dX2_keptMany_3 : decode cX2_keptMany 3 = .ok (.istore_n 2, 1) := by decide +kernel
theorem dX2_keptMany_4 : decode cX2_keptMany 4 = .ok (.iload_n 2, 1) := by decide +kernel
theorem dX2_keptMany_5 : decode cX2_keptMany 5 = .ok (.iconst 3, 1) := by decide +kernel
theorem dX2_keptMany_6 : decode cX2_keptMany 6 = .ok (.if_icmp .ge 26, 3) := by decide +kernel
theorem dX2_keptMany_9 : decode cX2_keptMany 9 = .ok (.iload_n 1, 1) := by decide +kernel
theorem dX2_keptMany_10 : decode cX2_keptMany 10 = .ok (.aload_n 0, 1) := by decide +kernel
theorem dX2_keptMany_11 : decode cX2_keptMany 11 = .ok (.getfield 43, 3) := by decide +kernel
theorem dX2_keptMany_14 : decode cX2_keptMany 14 = .ok (.iload_n 2, 1) := by decide +kernel
theorem dX2_keptMany_15 : decode cX2_keptMany 15 = .ok (.baload, 1) := by decide +kernel
theorem dX2_keptMany_16 : decode cX2_keptMany 16 = .ok (.ifCond .eq 7, 3) := by decide +kernel
theorem dX2_keptMany_19 : decode cX2_keptMany 19 = .ok (.iconst 1, 1) := by decide +kernel
theorem dX2_keptMany_20 : decode cX2_keptMany 20 = .ok (.goto 4, 3) := by decide +kernel
theorem dX2_keptMany_23 : decode cX2_keptMany 23 = .ok (.iconst 0, 1) := by decide +kernel
theorem dX2_keptMany_24 : decode cX2_keptMany 24 = .ok (.iadd, 1) := by decide +kernel
theorem dX2_keptMany_25 : decode cX2_keptMany 25 = .ok (.istore_n 1, 1) := by decide +kernel
theorem dX2_keptMany_26 : decode cX2_keptMany 26 = .ok (.iinc 2 1, 3) := by decide +kernel
theorem dX2_keptMany_29 : decode cX2_keptMany 29 = .ok (.goto (-25), 3) := by decide +kernel
theorem dX2_keptMany_32 : decode cX2_keptMany 32 = .ok (.iload_n 1, 1) := by decide +kernel
theorem dX2_keptMany_33 : decode cX2_keptMany 33 = .ok (.ireturn, 1) := by decide +kernel
theorem dX2_those_0 : decode cX2_those 0 = .ok (.iconst 0, 1) := by decide +kernel
theorem dX2_those_1 : decode cX2_those 1 = .ok (.istore_n 2, 1) := by decide +kernel
theorem dX2_those_2 : decode cX2_those 2 = .ok (.iconst 0, 1) := by decide +kernel
theorem dX2_those_3 : decode cX2_those 3 = .ok (.istore_n 3, 1) := by decide +kernel
theorem dX2_those_4 : decode cX2_those 4 = .ok (.iload_n 3, 1) := by decide +kernel
theorem dX2_those_5 : decode cX2_those 5 = .ok (.aload_n 0, 1) := by decide +kernel
theorem dX2_those_6 : decode cX2_those 6 = .ok (.getfield 79, 3) := by decide +kernel
theorem dX2_those_9 : decode cX2_those 9 = .ok (.if_icmp .ge 26, 3) := by decide +kernel
theorem dX2_those_12 : decode cX2_those 12 = .ok (.iload_n 2, 1) := by decide +kernel
theorem dX2_those_13 : decode cX2_those 13 = .ok (.aload_n 0, 1) := by decide +kernel
theorem dX2_those_14 : decode cX2_those 14 = .ok (.iload_n 3, 1) := by decide +kernel
theorem dX2_those_15 : decode cX2_those 15 = .ok (.iload_n 1, 1) := by decide +kernel
theorem dX2_those_16 : decode cX2_those 16 = .ok (.invokevirtual 151, 3) := by decide +kernel
theorem dX2_those_19 : decode cX2_those 19 = .ok (.ifCond .eq 7, 3) := by decide +kernel
theorem dX2_those_22 : decode cX2_those 22 = .ok (.iconst 1, 1) := by decide +kernel
theorem dX2_those_23 : decode cX2_those 23 = .ok (.goto 4, 3) := by decide +kernel
theorem dX2_those_26 : decode cX2_those 26 = .ok (.iconst 0, 1) := by decide +kernel
theorem dX2_those_27 : decode cX2_those 27 = .ok (.iadd, 1) := by decide +kernel
theorem dX2_those_28 : decode cX2_those 28 = .ok (.istore_n 2, 1) := by decide +kernel
theorem dX2_those_29 : decode cX2_those 29 = .ok (.iinc 3 1, 3) := by decide +kernel
theorem dX2_those_32 : decode cX2_those 32 = .ok (.goto (-28), 3) := by decide +kernel
theorem dX2_those_35 : decode cX2_those 35 = .ok (.iload_n 2, 1) := by decide +kernel
theorem dX2_those_36 : decode cX2_those 36 = .ok (.ireturn, 1) := by decide +kernel
theorem dX2_count_0 : decode cX2_count 0 = .ok (.iload_n 1, 1) := by decide +kernel
theorem dX2_count_1 : decode cX2_count 1 = .ok (.tableswitch 128 0 10 #[59, 64, 71, 76, 85, 90, 95, 103, 111, 116, 122], 59) := by decide +kernel
theorem dX2_count_60 : decode cX2_count 60 = .ok (.aload_n 0, 1) := by decide +kernel
theorem dX2_count_61 : decode cX2_count 61 = .ok (.getfield 79, 3) := by decide +kernel
theorem dX2_count_64 : decode cX2_count 64 = .ok (.ireturn, 1) := by decide +kernel
theorem dX2_count_65 : decode cX2_count 65 = .ok (.aload_n 0, 1) := by decide +kernel
theorem dX2_count_66 : decode cX2_count 66 = .ok (.getfield 31, 3) := by decide +kernel
theorem dX2_count_69 : decode cX2_count 69 = .ok (.iconst 0, 1) := by decide +kernel
theorem dX2_count_70 : decode cX2_count 70 = .ok (.iaload, 1) := by decide +kernel
theorem dX2_count_71 : decode cX2_count 71 = .ok (.ireturn, 1) := by decide +kernel
theorem dX2_count_72 : decode cX2_count 72 = .ok (.aload_n 0, 1) := by decide +kernel
theorem dX2_count_73 : decode cX2_count 73 = .ok (.getfield 121, 3) := by decide +kernel
theorem dX2_count_76 : decode cX2_count 76 = .ok (.ireturn, 1) := by decide +kernel
theorem dX2_count_77 : decode cX2_count 77 = .ok (.aload_n 0, 1) := by decide +kernel
theorem dX2_count_78 : decode cX2_count 78 = .ok (.aload_n 0, 1) := by decide +kernel
theorem dX2_count_79 : decode cX2_count 79 = .ok (.getfield 31, 3) := by decide +kernel
theorem dX2_count_82 : decode cX2_count 82 = .ok (.invokevirtual 162, 3) := by decide +kernel
theorem dX2_count_85 : decode cX2_count 85 = .ok (.ireturn, 1) := by decide +kernel
theorem dX2_count_86 : decode cX2_count 86 = .ok (.aload_n 0, 1) := by decide +kernel
theorem dX2_count_87 : decode cX2_count 87 = .ok (.invokevirtual 221, 3) := by decide +kernel
theorem dX2_count_90 : decode cX2_count 90 = .ok (.ireturn, 1) := by decide +kernel
theorem dX2_count_91 : decode cX2_count 91 = .ok (.aload_n 0, 1) := by decide +kernel
theorem dX2_count_92 : decode cX2_count 92 = .ok (.invokevirtual 225, 3) := by decide +kernel
theorem dX2_count_95 : decode cX2_count 95 = .ok (.ireturn, 1) := by decide +kernel
theorem dX2_count_96 : decode cX2_count 96 = .ok (.aload_n 0, 1) := by decide +kernel
theorem dX2_count_97 : decode cX2_count 97 = .ok (.getfield 7, 3) := by decide +kernel
theorem dX2_count_100 : decode cX2_count 100 = .ok (.invokestatic 228, 3) := by decide +kernel
theorem dX2_count_103 : decode cX2_count 103 = .ok (.ireturn, 1) := by decide +kernel
theorem dX2_count_104 : decode cX2_count 104 = .ok (.aload_n 0, 1) := by decide +kernel
theorem dX2_count_105 : decode cX2_count 105 = .ok (.getfield 16, 3) := by decide +kernel
theorem dX2_count_108 : decode cX2_count 108 = .ok (.invokestatic 228, 3) := by decide +kernel
theorem dX2_count_111 : decode cX2_count 111 = .ok (.ireturn, 1) := by decide +kernel
theorem dX2_count_112 : decode cX2_count 112 = .ok (.aload_n 0, 1) := by decide +kernel
theorem dX2_count_113 : decode cX2_count 113 = .ok (.invokevirtual 231, 3) := by decide +kernel
theorem dX2_count_116 : decode cX2_count 116 = .ok (.ireturn, 1) := by decide +kernel
theorem dX2_count_117 : decode cX2_count 117 = .ok (.aload_n 0, 1) := by decide +kernel
theorem dX2_count_118 : decode cX2_count 118 = .ok (.iconst 1, 1) := by decide +kernel
theorem dX2_count_119 : decode cX2_count 119 = .ok (.invokevirtual 234, 3) := by decide +kernel
theorem dX2_count_122 : decode cX2_count 122 = .ok (.ireturn, 1) := by decide +kernel
theorem dX2_count_123 : decode cX2_count 123 = .ok (.aload_n 0, 1) := by decide +kernel
theorem dX2_count_124 : decode cX2_count 124 = .ok (.iconst 2, 1) := by decide +kernel
theorem dX2_count_125 : decode cX2_count 125 = .ok (.invokevirtual 234, 3) := by decide +kernel
theorem dX2_count_128 : decode cX2_count 128 = .ok (.ireturn, 1) := by decide +kernel
theorem dX2_count_129 : decode cX2_count 129 = .ok (.iconst (-1), 1) := by decide +kernel
theorem dX2_count_130 : decode cX2_count 130 = .ok (.ireturn, 1) := by decide +kernel
theorem dX2_finding_0 : decode cX2_finding 0 = .ok (.aload_n 0, 1) := by decide +kernel
theorem dX2_finding_1 : decode cX2_finding 1 = .ok (.getfield 72, 3) := by decide +kernel
theorem dX2_finding_4 : decode cX2_finding 4 = .ok (.ireturn, 1) := by decide +kernel
theorem dX2_findings_0 : decode cX2_findings 0 = .ok (.iload_n 1, 1) := by decide +kernel
theorem dX2_findings_1 : decode cX2_findings 1 = .ok (.iconst 1, 1) := by decide +kernel
theorem dX2_findings_2 : decode cX2_findings 2 = .ok (.iconst 5, 1) := by decide +kernel
theorem dX2_findings_3 : decode cX2_findings 3 = .ok (.invokestatic 82, 3) := by decide +kernel
theorem dX2_findings_6 : decode cX2_findings 6 = .ok (.ifCond .eq 12, 3) := by decide +kernel
theorem dX2_findings_9 : decode cX2_findings 9 = .ok (.aload_n 0, 1) := by decide +kernel
theorem dX2_findings_10 : decode cX2_findings 10 = .ok (.getfield 51, 3) := by decide +kernel
theorem dX2_findings_13 : decode cX2_findings 13 = .ok (.iload_n 1, 1) := by decide +kernel
theorem dX2_findings_14 : decode cX2_findings 14 = .ok (.iaload, 1) := by decide +kernel
theorem dX2_findings_15 : decode cX2_findings 15 = .ok (.goto 4, 3) := by decide +kernel
theorem dX2_findings_18 : decode cX2_findings 18 = .ok (.iconst (-1), 1) := by decide +kernel
theorem dX2_findings_19 : decode cX2_findings 19 = .ok (.ireturn, 1) := by decide +kernel
theorem dX2_tubeOf_0 : decode cX2_tubeOf 0 = .ok (.aload_n 0, 1) := by decide +kernel
theorem dX2_tubeOf_1 : decode cX2_tubeOf 1 = .ok (.getfield 76, 3) := by decide +kernel
theorem dX2_tubeOf_4 : decode cX2_tubeOf 4 = .ok (.istore_n 3, 1) := by decide +kernel
theorem dX2_tubeOf_5 : decode cX2_tubeOf 5 = .ok (.aload_n 0, 1) := by decide +kernel
theorem dX2_tubeOf_6 : decode cX2_tubeOf 6 = .ok (.iload_n 1, 1) := by decide +kernel
theorem dX2_tubeOf_7 : decode cX2_tubeOf 7 = .ok (.iload_n 2, 1) := by decide +kernel
theorem dX2_tubeOf_8 : decode cX2_tubeOf 8 = .ok (.invokevirtual 237, 3) := by decide +kernel
theorem dX2_tubeOf_11 : decode cX2_tubeOf 11 = .ok (.pop, 1) := by decide +kernel
theorem dX2_tubeOf_12 : decode cX2_tubeOf 12 = .ok (.aload_n 0, 1) := by decide +kernel
theorem dX2_tubeOf_13 : decode cX2_tubeOf 13 = .ok (.getfield 76, 3) := by decide +kernel
theorem dX2_tubeOf_16 : decode cX2_tubeOf 16 = .ok (.istore 4, 2) := by decide +kernel
theorem dX2_tubeOf_18 : decode cX2_tubeOf 18 = .ok (.aload_n 0, 1) := by decide +kernel
theorem dX2_tubeOf_19 : decode cX2_tubeOf 19 = .ok (.iload_n 3, 1) := by decide +kernel
theorem dX2_tubeOf_20 : decode cX2_tubeOf 20 = .ok (.putfield 76, 3) := by decide +kernel
theorem dX2_tubeOf_23 : decode cX2_tubeOf 23 = .ok (.iload 4, 2) := by decide +kernel
theorem dX2_tubeOf_25 : decode cX2_tubeOf 25 = .ok (.ireturn, 1) := by decide +kernel
theorem dX2_digest_0 : decode cX2_digest 0 = .ok (.ldc2_w 240, 3) := by decide +kernel
theorem dX2_digest_3 : decode cX2_digest 3 = .ok (.lstore_n 1, 1) := by decide +kernel
theorem dX2_digest_4 : decode cX2_digest 4 = .ok (.iconst 0, 1) := by decide +kernel
theorem dX2_digest_5 : decode cX2_digest 5 = .ok (.istore_n 3, 1) := by decide +kernel
theorem dX2_digest_6 : decode cX2_digest 6 = .ok (.iload_n 3, 1) := by decide +kernel
theorem dX2_digest_7 : decode cX2_digest 7 = .ok (.bipush 11, 2) := by decide +kernel
theorem dX2_digest_9 : decode cX2_digest 9 = .ok (.if_icmp .ge 22, 3) := by decide +kernel
theorem dX2_digest_12 : decode cX2_digest 12 = .ok (.ldc2_w 242, 3) := by decide +kernel
theorem dX2_digest_15 : decode cX2_digest 15 = .ok (.lload_n 1, 1) := by decide +kernel
theorem dX2_digest_16 : decode cX2_digest 16 = .ok (.lmul, 1) := by decide +kernel
theorem dX2_digest_17 : decode cX2_digest 17 = .ok (.aload_n 0, 1) := by decide +kernel
theorem dX2_digest_18 : decode cX2_digest 18 = .ok (.iload_n 3, 1) := by decide +kernel
theorem dX2_digest_19 : decode cX2_digest 19 = .ok (.invokevirtual 244, 3) := by decide +kernel
theorem dX2_digest_22 : decode cX2_digest 22 = .ok (.i2l, 1) := by decide +kernel
theorem dX2_digest_23 : decode cX2_digest 23 = .ok (.ladd, 1) := by decide +kernel
theorem dX2_digest_24 : decode cX2_digest 24 = .ok (.lstore_n 1, 1) := by decide +kernel
theorem dX2_digest_25 : decode cX2_digest 25 = .ok (.iinc 3 1, 3) := by decide +kernel
theorem dX2_digest_28 : decode cX2_digest 28 = .ok (.goto (-22), 3) := by decide +kernel
theorem dX2_digest_31 : decode cX2_digest 31 = .ok (.iconst 0, 1) := by decide +kernel
theorem dX2_digest_32 : decode cX2_digest 32 = .ok (.istore_n 3, 1) := by decide +kernel
theorem dX2_digest_33 : decode cX2_digest 33 = .ok (.iload_n 3, 1) := by decide +kernel
theorem dX2_digest_34 : decode cX2_digest 34 = .ok (.aload_n 0, 1) := by decide +kernel
theorem dX2_digest_35 : decode cX2_digest 35 = .ok (.getfield 79, 3) := by decide +kernel
theorem dX2_digest_38 : decode cX2_digest 38 = .ok (.if_icmp .ge 40, 3) := by decide +kernel
theorem dX2_digest_41 : decode cX2_digest 41 = .ok (.iconst 0, 1) := by decide +kernel
theorem dX2_digest_42 : decode cX2_digest 42 = .ok (.istore 4, 2) := by decide +kernel
theorem dX2_digest_44 : decode cX2_digest 44 = .ok (.iload 4, 2) := by decide +kernel
theorem dX2_digest_46 : decode cX2_digest 46 = .ok (.bipush 7, 2) := by decide +kernel
theorem dX2_digest_48 : decode cX2_digest 48 = .ok (.if_icmp .ge 24, 3) := by decide +kernel
theorem dX2_digest_51 : decode cX2_digest 51 = .ok (.ldc2_w 242, 3) := by decide +kernel
theorem dX2_digest_54 : decode cX2_digest 54 = .ok (.lload_n 1, 1) := by decide +kernel
theorem dX2_digest_55 : decode cX2_digest 55 = .ok (.lmul, 1) := by decide +kernel
theorem dX2_digest_56 : decode cX2_digest 56 = .ok (.aload_n 0, 1) := by decide +kernel
theorem dX2_digest_57 : decode cX2_digest 57 = .ok (.iload_n 3, 1) := by decide +kernel
theorem dX2_digest_58 : decode cX2_digest 58 = .ok (.iload 4, 2) := by decide +kernel
theorem dX2_digest_60 : decode cX2_digest 60 = .ok (.invokevirtual 247, 3) := by decide +kernel
theorem dX2_digest_63 : decode cX2_digest 63 = .ok (.i2l, 1) := by decide +kernel
theorem dX2_digest_64 : decode cX2_digest 64 = .ok (.ladd, 1) := by decide +kernel
theorem dX2_digest_65 : decode cX2_digest 65 = .ok (.lstore_n 1, 1) := by decide +kernel
theorem dX2_digest_66 : decode cX2_digest 66 = .ok (.iinc 4 1, 3) := by decide +kernel
theorem dX2_digest_69 : decode cX2_digest 69 = .ok (.goto (-25), 3) := by decide +kernel
theorem dX2_digest_72 : decode cX2_digest 72 = .ok (.iinc 3 1, 3) := by decide +kernel
theorem dX2_digest_75 : decode cX2_digest 75 = .ok (.goto (-42), 3) := by decide +kernel
theorem dX2_digest_78 : decode cX2_digest 78 = .ok (.iconst 0, 1) := by decide +kernel
theorem dX2_digest_79 : decode cX2_digest 79 = .ok (.istore_n 3, 1) := by decide +kernel
theorem dX2_digest_80 : decode cX2_digest 80 = .ok (.iload_n 3, 1) := by decide +kernel
theorem dX2_digest_81 : decode cX2_digest 81 = .ok (.iconst 3, 1) := by decide +kernel
theorem dX2_digest_82 : decode cX2_digest 82 = .ok (.if_icmp .ge 40, 3) := by decide +kernel
theorem dX2_digest_85 : decode cX2_digest 85 = .ok (.ldc2_w 242, 3) := by decide +kernel
theorem dX2_digest_88 : decode cX2_digest 88 = .ok (.lload_n 1, 1) := by decide +kernel
theorem dX2_digest_89 : decode cX2_digest 89 = .ok (.lmul, 1) := by decide +kernel
theorem dX2_digest_90 : decode cX2_digest 90 = .ok (.aload_n 0, 1) := by decide +kernel
theorem dX2_digest_91 : decode cX2_digest 91 = .ok (.getfield 43, 3) := by decide +kernel
theorem dX2_digest_94 : decode cX2_digest 94 = .ok (.iload_n 3, 1) := by decide +kernel
theorem dX2_digest_95 : decode cX2_digest 95 = .ok (.baload, 1) := by decide +kernel
theorem dX2_digest_96 : decode cX2_digest 96 = .ok (.ifCond .eq 16, 3) := by decide +kernel
theorem dX2_digest_99 : decode cX2_digest 99 = .ok (.aload_n 0, 1) := by decide +kernel
theorem dX2_digest_100 : decode cX2_digest 100 = .ok (.getfield 40, 3) := by decide +kernel
theorem dX2_digest_103 : decode cX2_digest 103 = .ok (.sipush 616, 3) := by decide +kernel
theorem dX2_digest_106 : decode cX2_digest 106 = .ok (.iload_n 3, 1) := by decide +kernel
theorem dX2_digest_107 : decode cX2_digest 107 = .ok (.imul, 1) := by decide +kernel
theorem dX2_digest_108 : decode cX2_digest 108 = .ok (.iaload, 1) := by decide +kernel
theorem dX2_digest_109 : decode cX2_digest 109 = .ok (.goto 4, 3) := by decide +kernel
theorem dX2_digest_112 : decode cX2_digest 112 = .ok (.iconst (-1), 1) := by decide +kernel
theorem dX2_digest_113 : decode cX2_digest 113 = .ok (.i2l, 1) := by decide +kernel
theorem dX2_digest_114 : decode cX2_digest 114 = .ok (.ladd, 1) := by decide +kernel
theorem dX2_digest_115 : decode cX2_digest 115 = .ok (.lstore_n 1, 1) := by decide +kernel
theorem dX2_digest_116 : decode cX2_digest 116 = .ok (.iinc 3 1, 3) := by decide +kernel
theorem dX2_digest_119 : decode cX2_digest 119 = .ok (.goto (-39), 3) := by decide +kernel
theorem dX2_digest_122 : decode cX2_digest 122 = .ok (.iconst 0, 1) := by decide +kernel
theorem dX2_digest_123 : decode cX2_digest 123 = .ok (.istore_n 3, 1) := by decide +kernel
theorem dX2_digest_124 : decode cX2_digest 124 = .ok (.iload_n 3, 1) := by decide +kernel
theorem dX2_digest_125 : decode cX2_digest 125 = .ok (.bipush 6, 2) := by decide +kernel
theorem dX2_digest_127 : decode cX2_digest 127 = .ok (.if_icmp .ge 63, 3) := by decide +kernel
theorem dX2_digest_130 : decode cX2_digest 130 = .ok (.ldc2_w 242, 3) := by decide +kernel
theorem dX2_digest_133 : decode cX2_digest 133 = .ok (.lload_n 1, 1) := by decide +kernel
theorem dX2_digest_134 : decode cX2_digest 134 = .ok (.lmul, 1) := by decide +kernel
theorem dX2_digest_135 : decode cX2_digest 135 = .ok (.aload_n 0, 1) := by decide +kernel
theorem dX2_digest_136 : decode cX2_digest 136 = .ok (.getfield 7, 3) := by decide +kernel
theorem dX2_digest_139 : decode cX2_digest 139 = .ok (.iload_n 3, 1) := by decide +kernel
theorem dX2_digest_140 : decode cX2_digest 140 = .ok (.iaload, 1) := by decide +kernel
theorem dX2_digest_141 : decode cX2_digest 141 = .ok (.i2l, 1) := by decide +kernel
theorem dX2_digest_142 : decode cX2_digest 142 = .ok (.ladd, 1) := by decide +kernel
theorem dX2_digest_143 : decode cX2_digest 143 = .ok (.lstore_n 1, 1) := by decide +kernel
theorem dX2_digest_144 : decode cX2_digest 144 = .ok (.iconst 0, 1) := by decide +kernel
theorem dX2_digest_145 : decode cX2_digest 145 = .ok (.istore 4, 2) := by decide +kernel
theorem dX2_digest_147 : decode cX2_digest 147 = .ok (.iload 4, 2) := by decide +kernel
theorem dX2_digest_149 : decode cX2_digest 149 = .ok (.aload_n 0, 1) := by decide +kernel
theorem dX2_digest_150 : decode cX2_digest 150 = .ok (.getfield 7, 3) := by decide +kernel
theorem dX2_digest_153 : decode cX2_digest 153 = .ok (.iload_n 3, 1) := by decide +kernel
theorem dX2_digest_154 : decode cX2_digest 154 = .ok (.iaload, 1) := by decide +kernel
theorem dX2_digest_155 : decode cX2_digest 155 = .ok (.if_icmp .ge 29, 3) := by decide +kernel
theorem dX2_digest_158 : decode cX2_digest 158 = .ok (.ldc2_w 242, 3) := by decide +kernel
theorem dX2_digest_161 : decode cX2_digest 161 = .ok (.lload_n 1, 1) := by decide +kernel
theorem dX2_digest_162 : decode cX2_digest 162 = .ok (.lmul, 1) := by decide +kernel
theorem dX2_digest_163 : decode cX2_digest 163 = .ok (.aload_n 0, 1) := by decide +kernel
theorem dX2_digest_164 : decode cX2_digest 164 = .ok (.getfield 13, 3) := by decide +kernel
theorem dX2_digest_167 : decode cX2_digest 167 = .ok (.bipush 40, 2) := by decide +kernel
theorem dX2_digest_169 : decode cX2_digest 169 = .ok (.iload_n 3, 1) := by decide +kernel
theorem dX2_digest_170 : decode cX2_digest 170 = .ok (.imul, 1) := by decide +kernel
theorem dX2_digest_171 : decode cX2_digest 171 = .ok (.iload 4, 2) := by decide +kernel
theorem dX2_digest_173 : decode cX2_digest 173 = .ok (.iadd, 1) := by decide +kernel
theorem dX2_digest_174 : decode cX2_digest 174 = .ok (.iaload, 1) := by decide +kernel
theorem dX2_digest_175 : decode cX2_digest 175 = .ok (.i2l, 1) := by decide +kernel
theorem dX2_digest_176 : decode cX2_digest 176 = .ok (.ladd, 1) := by decide +kernel
theorem dX2_digest_177 : decode cX2_digest 177 = .ok (.lstore_n 1, 1) := by decide +kernel
theorem dX2_digest_178 : decode cX2_digest 178 = .ok (.iinc 4 1, 3) := by decide +kernel
theorem dX2_digest_181 : decode cX2_digest 181 = .ok (.goto (-34), 3) := by decide +kernel
theorem dX2_digest_184 : decode cX2_digest 184 = .ok (.iinc 3 1, 3) := by decide +kernel
theorem dX2_digest_187 : decode cX2_digest 187 = .ok (.goto (-63), 3) := by decide +kernel
theorem dX2_digest_190 : decode cX2_digest 190 = .ok (.iconst 0, 1) := by decide +kernel
theorem dX2_digest_191 : decode cX2_digest 191 = .ok (.istore_n 3, 1) := by decide +kernel
theorem dX2_digest_192 : decode cX2_digest 192 = .ok (.iload_n 3, 1) := by decide +kernel
theorem dX2_digest_193 : decode cX2_digest 193 = .ok (.iconst 4, 1) := by decide +kernel
theorem dX2_digest_194 : decode cX2_digest 194 = .ok (.if_icmp .ge 63, 3) := by decide +kernel
theorem dX2_digest_197 : decode cX2_digest 197 = .ok (.ldc2_w 242, 3) := by decide +kernel
theorem dX2_digest_200 : decode cX2_digest 200 = .ok (.lload_n 1, 1) := by decide +kernel
theorem dX2_digest_201 : decode cX2_digest 201 = .ok (.lmul, 1) := by decide +kernel
theorem dX2_digest_202 : decode cX2_digest 202 = .ok (.aload_n 0, 1) := by decide +kernel
theorem dX2_digest_203 : decode cX2_digest 203 = .ok (.getfield 16, 3) := by decide +kernel
theorem dX2_digest_206 : decode cX2_digest 206 = .ok (.iload_n 3, 1) := by decide +kernel
theorem dX2_digest_207 : decode cX2_digest 207 = .ok (.iaload, 1) := by decide +kernel
theorem dX2_digest_208 : decode cX2_digest 208 = .ok (.i2l, 1) := by decide +kernel
theorem dX2_digest_209 : decode cX2_digest 209 = .ok (.ladd, 1) := by decide +kernel
theorem dX2_digest_210 : decode cX2_digest 210 = .ok (.lstore_n 1, 1) := by decide +kernel
theorem dX2_digest_211 : decode cX2_digest 211 = .ok (.iconst 0, 1) := by decide +kernel
theorem dX2_digest_212 : decode cX2_digest 212 = .ok (.istore 4, 2) := by decide +kernel
theorem dX2_digest_214 : decode cX2_digest 214 = .ok (.iload 4, 2) := by decide +kernel
theorem dX2_digest_216 : decode cX2_digest 216 = .ok (.aload_n 0, 1) := by decide +kernel
theorem dX2_digest_217 : decode cX2_digest 217 = .ok (.getfield 16, 3) := by decide +kernel
theorem dX2_digest_220 : decode cX2_digest 220 = .ok (.iload_n 3, 1) := by decide +kernel
theorem dX2_digest_221 : decode cX2_digest 221 = .ok (.iaload, 1) := by decide +kernel
theorem dX2_digest_222 : decode cX2_digest 222 = .ok (.if_icmp .ge 29, 3) := by decide +kernel
theorem dX2_digest_225 : decode cX2_digest 225 = .ok (.ldc2_w 242, 3) := by decide +kernel
theorem dX2_digest_228 : decode cX2_digest 228 = .ok (.lload_n 1, 1) := by decide +kernel
theorem dX2_digest_229 : decode cX2_digest 229 = .ok (.lmul, 1) := by decide +kernel
theorem dX2_digest_230 : decode cX2_digest 230 = .ok (.aload_n 0, 1) := by decide +kernel
theorem dX2_digest_231 : decode cX2_digest 231 = .ok (.getfield 19, 3) := by decide +kernel
theorem dX2_digest_234 : decode cX2_digest 234 = .ok (.bipush 60, 2) := by decide +kernel
theorem dX2_digest_236 : decode cX2_digest 236 = .ok (.iload_n 3, 1) := by decide +kernel
theorem dX2_digest_237 : decode cX2_digest 237 = .ok (.imul, 1) := by decide +kernel
theorem dX2_digest_238 : decode cX2_digest 238 = .ok (.iload 4, 2) := by decide +kernel
theorem dX2_digest_240 : decode cX2_digest 240 = .ok (.iadd, 1) := by decide +kernel
theorem dX2_digest_241 : decode cX2_digest 241 = .ok (.iaload, 1) := by decide +kernel
theorem dX2_digest_242 : decode cX2_digest 242 = .ok (.i2l, 1) := by decide +kernel
theorem dX2_digest_243 : decode cX2_digest 243 = .ok (.ladd, 1) := by decide +kernel
theorem dX2_digest_244 : decode cX2_digest 244 = .ok (.lstore_n 1, 1) := by decide +kernel
theorem dX2_digest_245 : decode cX2_digest 245 = .ok (.iinc 4 1, 3) := by decide +kernel
theorem dX2_digest_248 : decode cX2_digest 248 = .ok (.goto (-34), 3) := by decide +kernel
theorem dX2_digest_251 : decode cX2_digest 251 = .ok (.iinc 3 1, 3) := by decide +kernel
theorem dX2_digest_254 : decode cX2_digest 254 = .ok (.goto (-62), 3) := by decide +kernel
theorem dX2_digest_257 : decode cX2_digest 257 = .ok (.lload_n 1, 1) := by decide +kernel
theorem dX2_digest_258 : decode cX2_digest 258 = .ok (.lreturn, 1) := by decide +kernel
