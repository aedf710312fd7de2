theorem dX0_init_0 : decode cX0_init 0 = .ok (.aload_n 0, 1) := by decide +kernel
theorem dX0_init_1 : decode cX0_init 1 = .ok (.invokespecial 3, 3) := by decide +kernel
theorem dX0_init_4 : decode cX0_init 4 = .ok (.aload_n 0, 1) := by decide +kernel
theorem dX0_init_5 : decode cX0_init 5 = .ok (.bipush 14, 2) := by decide +kernel
theorem dX0_init_7 : decode cX0_init 7 = .ok (.newarray .int, 2) := by decide +kernel
theorem dX0_init_9 : decode cX0_init 9 = .ok (.putfield 9, 3) := by decide +kernel
theorem dX0_init_12 : decode cX0_init 12 = .ok (.aload_n 0, 1) := by decide +kernel
theorem dX0_init_13 : decode cX0_init 13 = .ok (.bipush 14, 2) := by decide +kernel
theorem dX0_init_15 : decode cX0_init 15 = .ok (.newarray .int, 2) := by decide +kernel
theorem dX0_init_17 : decode cX0_init 17 = .ok (.putfield 15, 3) := by decide +kernel
theorem dX0_init_20 : decode cX0_init 20 = .ok (.aload_n 0, 1) := by decide +kernel
theorem dX0_init_21 : decode cX0_init 21 = .ok (.bipush 14, 2) := by decide +kernel
theorem dX0_init_23 : decode cX0_init 23 = .ok (.newarray .int, 2) := by decide +kernel
theorem dX0_init_25 : decode cX0_init 25 = .ok (.putfield 18, 3) := by decide +kernel
theorem dX0_init_28 : decode cX0_init 28 = .ok (.aload_n 0, 1) := by decide +kernel
theorem dX0_init_29 : decode cX0_init 29 = .ok (.bipush 14, 2) := by decide +kernel
theorem dX0_init_31 : decode cX0_init 31 = .ok (.bipush 96, 2) := by decide +kernel
theorem dX0_init_33 : decode cX0_init 33 = .ok (.multianewarray 21 2, 4) := by decide +kernel
theorem dX0_init_37 : decode cX0_init 37 = .ok (.putfield 23, 3) := by decide +kernel
theorem dX0_init_40 : decode cX0_init 40 = .ok (.aload_n 0, 1) := by decide +kernel
theorem dX0_init_41 : decode cX0_init 41 = .ok (.bipush 96, 2) := by decide +kernel
theorem dX0_init_43 : decode cX0_init 43 = .ok (.newarray .int, 2) := by decide +kernel
theorem dX0_init_45 : decode cX0_init 45 = .ok (.putfield 26, 3) := by decide +kernel
theorem dX0_init_48 : decode cX0_init 48 = .ok (.return_, 1) := by decide +kernel
theorem dX0_write_0 : decode cX0_write 0 = .ok (.aload_n 0, 1) := by decide +kernel
theorem dX0_write_1 : decode cX0_write 1 = .ok (.getfield 9, 3) := by decide +kernel
theorem dX0_write_4 : decode cX0_write 4 = .ok (.iload_n 1, 1) := by decide +kernel
theorem dX0_write_5 : decode cX0_write 5 = .ok (.aload_n 2, 1) := by decide +kernel
theorem dX0_write_6 : decode cX0_write 6 = .ok (.getfield 29, 3) := by decide +kernel
theorem dX0_write_9 : decode cX0_write 9 = .ok (.iastore, 1) := by decide +kernel
theorem dX0_write_10 : decode cX0_write 10 = .ok (.aload_n 0, 1) := by decide +kernel
theorem dX0_write_11 : decode cX0_write 11 = .ok (.getfield 15, 3) := by decide +kernel
theorem dX0_write_14 : decode cX0_write 14 = .ok (.iload_n 1, 1) := by decide +kernel
theorem dX0_write_15 : decode cX0_write 15 = .ok (.aload_n 2, 1) := by decide +kernel
theorem dX0_write_16 : decode cX0_write 16 = .ok (.getfield 35, 3) := by decide +kernel
theorem dX0_write_19 : decode cX0_write 19 = .ok (.iastore, 1) := by decide +kernel
theorem dX0_write_20 : decode cX0_write 20 = .ok (.aload_n 0, 1) := by decide +kernel
theorem dX0_write_21 : decode cX0_write 21 = .ok (.getfield 18, 3) := by decide +kernel
theorem dX0_write_24 : decode cX0_write 24 = .ok (.iload_n 1, 1) := by decide +kernel
theorem dX0_write_25 : decode cX0_write 25 = .ok (.aload_n 2, 1) := by decide +kernel
theorem dX0_write_26 : decode cX0_write 26 = .ok (.getfield 37, 3) := by decide +kernel
theorem dX0_write_29 : decode cX0_write 29 = .ok (.iastore, 1) := by decide +kernel
theorem dX0_write_30 : decode cX0_write 30 = .ok (.aload_n 2, 1) := by decide +kernel
theorem dX0_write_31 : decode cX0_write 31 = .ok (.getfield 40, 3) := by decide +kernel
theorem dX0_write_34 : decode cX0_write 34 = .ok (.iconst 0, 1) := by decide +kernel
theorem dX0_write_35 : decode cX0_write 35 = .ok (.aload_n 0, 1) := by decide +kernel
theorem dX0_write_36 : decode cX0_write 36 = .ok (.getfield 23, 3) := by decide +kernel
theorem dX0_write_39 : decode cX0_write 39 = .ok (.iload_n 1, 1) := by decide +kernel
theorem dX0_write_40 : decode cX0_write 40 = .ok (.aaload, 1) := by decide +kernel
theorem dX0_write_41 : decode cX0_write 41 = .ok (.iconst 0, 1) := by decide +kernel
theorem dX0_write_42 : decode cX0_write 42 = .ok (.aload_n 2, 1) := by decide +kernel
theorem dX0_write_43 : decode cX0_write 43 = .ok (.getfield 37, 3) := by decide +kernel
theorem dX0_write_46 : decode cX0_write 46 = .ok (.invokestatic 42, 3) := by decide +kernel
theorem dX0_write_49 : decode cX0_write 49 = .ok (.return_, 1) := by decide +kernel
theorem dX0_worked_0 : decode cX0_worked 0 = .ok (.iconst 0, 1) := by decide +kernel
theorem dX0_worked_1 : decode cX0_worked 1 = .ok (.istore 5, 2) := by decide +kernel
theorem dX0_worked_3 : decode cX0_worked 3 = .ok (.iconst 0, 1) := by decide +kernel
theorem dX0_worked_4 : decode cX0_worked 4 = .ok (.istore 6, 2) := by decide +kernel
theorem dX0_worked_6 : decode cX0_worked 6 = .ok (.iload 6, 2) := by decide +kernel
theorem dX0_worked_8 : decode cX0_worked 8 = .ok (.aload_n 0, 1) := by decide +kernel
theorem dX0_worked_9 : decode cX0_worked 9 = .ok (.getfield 18, 3) := by decide +kernel
theorem dX0_worked_12 : decode cX0_worked 12 = .ok (.iload_n 1, 1) := by decide +kernel
theorem dX0_worked_13 : decode cX0_worked 13 = .ok (.iaload, 1) := by decide +kernel
theorem dX0_worked_14 : decode cX0_worked 14 = .ok (.if_icmp .ge 195, 3) := by decide +kernel
theorem dX0_worked_17 : decode cX0_worked 17 = .ok (.aload_n 0, 1) := by decide +kernel
theorem dX0_worked_18 : decode cX0_worked 18 = .ok (.getfield 23, 3) := by decide +kernel
theorem dX0_worked_21 : decode cX0_worked 21 = .ok (.iload_n 1, 1) := by decide +kernel
theorem dX0_worked_22 : decode cX0_worked 22 = .ok (.aaload, 1) := by decide +kernel
theorem dX0_worked_23 : decode cX0_worked 23 = .ok (.iload 6, 2) := by decide +kernel
theorem dX0_worked_25 : decode cX0_worked 25 = .ok (.iaload, 1) := by decide +kernel
theorem dX0_worked_26 : decode cX0_worked 26 = .ok (.istore 7, 2) := by decide +kernel
theorem dX0_worked_28 : decode cX0_worked 28 = .ok (.iload 7, 2) := by decide +kernel
theorem dX0_worked_30 : decode cX0_worked 30 = .ok (.sipush 10000, 3) := by decide +kernel
theorem dX0_worked_33 : decode cX0_worked 33 = .ok (.if_icmp .ge 28, 3) := by decide +kernel
theorem dX0_worked_36 : decode cX0_worked 36 = .ok (.iload 5, 2) := by decide +kernel
theorem dX0_worked_38 : decode cX0_worked 38 = .ok (.aload_n 0, 1) := by decide +kernel
theorem dX0_worked_39 : decode cX0_worked 39 = .ok (.getfield 26, 3) := by decide +kernel
theorem dX0_worked_42 : decode cX0_worked 42 = .ok (.arraylength, 1) := by decide +kernel
theorem dX0_worked_43 : decode cX0_worked 43 = .ok (.if_icmp .ge 18, 3) := by decide +kernel
theorem dX0_worked_46 : decode cX0_worked 46 = .ok (.aload_n 0, 1) := by decide +kernel
theorem dX0_worked_47 : decode cX0_worked 47 = .ok (.getfield 26, 3) := by decide +kernel
theorem dX0_worked_50 : decode cX0_worked 50 = .ok (.iload 5, 2) := by decide +kernel
theorem dX0_worked_52 : decode cX0_worked 52 = .ok (.iload 7, 2) := by decide +kernel
theorem dX0_worked_54 : decode cX0_worked 54 = .ok (.iastore, 1) := by decide +kernel
theorem dX0_worked_55 : decode cX0_worked 55 = .ok (.iinc 5 1, 3) := by decide +kernel
theorem dX0_worked_58 : decode cX0_worked 58 = .ok (.goto 145, 3) := by decide +kernel
theorem dX0_worked_61 : decode cX0_worked 61 = .ok (.iload 7, 2) := by decide +kernel
theorem dX0_worked_63 : decode cX0_worked 63 = .ok (.sipush 20000, 3) := by decide +kernel
theorem dX0_worked_66 : decode cX0_worked 66 = .ok (.if_icmp .ge 52, 3) := by decide +kernel
theorem dX0_worked_69 : decode cX0_worked 69 = .ok (.iload 5, 2) := by decide +kernel
theorem dX0_worked_71 : decode cX0_worked 71 = .ok (.aload_n 0, 1) := by decide +kernel
theorem dX0_worked_72 : decode cX0_worked 72 = .ok (.getfield 26, 3) := by decide +kernel
theorem dX0_worked_75 : decode cX0_worked 75 = .ok (.arraylength, 1) := by decide +kernel
theorem dX0_worked_76 : decode cX0_worked 76 = .ok (.if_icmp .ge 42, 3) := by decide +kernel
theorem dX0_worked_79 : decode cX0_worked 79 = .ok (.aload_n 0, 1) := by decide +kernel
theorem dX0_worked_80 : decode cX0_worked 80 = .ok (.getfield 26, 3) := by decide +kernel
theorem dX0_worked_83 : decode cX0_worked 83 = .ok (.iload 5, 2) := by decide +kernel
theorem dX0_worked_85 : decode cX0_worked 85 = .ok (.iload 7, 2) := by decide +kernel
theorem dX0_worked_87 : decode cX0_worked 87 = .ok (.sipush 10000, 3) := by decide +kernel
theorem dX0_worked_90 : decode cX0_worked 90 = .ok (.if_icmp .ne 7, 3) := by decide +kernel
theorem dX0_worked_93 : decode cX0_worked 93 = .ok (.iload_n 2, 1) := by decide +kernel
theorem dX0_worked_94 : decode cX0_worked 94 = .ok (.goto 17, 3) := by decide +kernel
theorem dX0_worked_97 : decode cX0_worked 97 = .ok (.iload 7, 2) := by decide +kernel
theorem dX0_worked_99 : decode cX0_worked 99 = .ok (.sipush 10001, 3) := by decide +kernel
theorem dX0_worked_102 : decode cX0_worked 102 = .ok (.if_icmp .ne 7, 3) := by decide +kernel
theorem dX0_worked_105 : decode cX0_worked 105 = .ok (.iload_n 3, 1) := by decide +kernel
theorem dX0_worked_106 : decode cX0_worked 106 = .ok (.goto 5, 3) := by decide +kernel
theorem dX0_worked_109 : decode cX0_worked 109 = .ok (.iload 4, 2) := by decide +kernel
theorem dX0_worked_111 : decode cX0_worked 111 = .ok (.iastore, 1) := by decide +kernel
theorem dX0_worked_112 : decode cX0_worked 112 = .ok (.iinc 5 1, 3) := by decide +kernel
theorem dX0_worked_115 : decode cX0_worked 115 = .ok (.goto 88, 3) := by decide +kernel
theorem dX0_worked_118 : decode cX0_worked 118 = .ok (.iload 7, 2) := by decide +kernel
theorem dX0_worked_120 : decode cX0_worked 120 = .ok (.sipush 20033, 3) := by decide +kernel
theorem dX0_worked_123 : decode cX0_worked 123 = .ok (.if_icmp .ne 37, 3) := by decide +kernel
theorem dX0_worked_126 : decode cX0_worked 126 = .ok (.iload 5, 2) := by decide +kernel
theorem dX0_worked_128 : decode cX0_worked 128 = .ok (.ifCond .le 32, 3) := by decide +kernel
theorem dX0_worked_131 : decode cX0_worked 131 = .ok (.aload_n 0, 1) := by decide +kernel
theorem dX0_worked_132 : decode cX0_worked 132 = .ok (.getfield 26, 3) := by decide +kernel
theorem dX0_worked_135 : decode cX0_worked 135 = .ok (.iload 5, 2) := by decide +kernel
theorem dX0_worked_137 : decode cX0_worked 137 = .ok (.iconst 1, 1) := by decide +kernel
theorem dX0_worked_138 : decode cX0_worked 138 = .ok (.isub, 1) := by decide +kernel
theorem dX0_worked_139 : decode cX0_worked 139 = .ok (.aload_n 0, 1) := by decide +kernel
theorem dX0_worked_140 : decode cX0_worked 140 = .ok (.getfield 26, 3) := by decide +kernel
theorem dX0_worked_143 : decode cX0_worked 143 = .ok (.iload 5, 2) := by decide +kernel
theorem dX0_worked_145 : decode cX0_worked 145 = .ok (.iconst 1, 1) := by decide +kernel
theorem dX0_worked_146 : decode cX0_worked 146 = .ok (.isub, 1) := by decide +kernel
theorem dX0_worked_147 : decode cX0_worked 147 = .ok (.iaload, 1) := by decide +kernel
theorem dX0_worked_148 : decode cX0_worked 148 = .ok (.ifCond .ne 7, 3) := by decide +kernel
theorem dX0_worked_151 : decode cX0_worked 151 = .ok (.iconst 1, 1) := by decide +kernel
theorem dX0_worked_152 : decode cX0_worked 152 = .ok (.goto 4, 3) := by decide +kernel
theorem dX0_worked_155 : decode cX0_worked 155 = .ok (.iconst 0, 1) := by decide +kernel
theorem dX0_worked_156 : decode cX0_worked 156 = .ok (.iastore, 1) := by decide +kernel
theorem dX0_worked_157 : decode cX0_worked 157 = .ok (.goto 46, 3) := by decide +kernel
theorem dX0_worked_160 : decode cX0_worked 160 = .ok (.iload 5, 2) := by decide +kernel
theorem dX0_worked_162 : decode cX0_worked 162 = .ok (.iconst 1, 1) := by decide +kernel
theorem dX0_worked_163 : decode cX0_worked 163 = .ok (.if_icmp .le 40, 3) := by decide +kernel
theorem dX0_worked_166 : decode cX0_worked 166 = .ok (.iinc 5 (-1), 3) := by decide +kernel
theorem dX0_worked_169 : decode cX0_worked 169 = .ok (.aload_n 0, 1) := by decide +kernel
theorem dX0_worked_170 : decode cX0_worked 170 = .ok (.getfield 26, 3) := by decide +kernel
theorem dX0_worked_173 : decode cX0_worked 173 = .ok (.iload 5, 2) := by decide +kernel
theorem dX0_worked_175 : decode cX0_worked 175 = .ok (.iconst 1, 1) := by decide +kernel
theorem dX0_worked_176 : decode cX0_worked 176 = .ok (.isub, 1) := by decide +kernel
theorem dX0_worked_177 : decode cX0_worked 177 = .ok (.iload 7, 2) := by decide +kernel
theorem dX0_worked_179 : decode cX0_worked 179 = .ok (.sipush 20000, 3) := by decide +kernel
theorem dX0_worked_182 : decode cX0_worked 182 = .ok (.isub, 1) := by decide +kernel
theorem dX0_worked_183 : decode cX0_worked 183 = .ok (.aload_n 0, 1) := by decide +kernel
theorem dX0_worked_184 : decode cX0_worked 184 = .ok (.getfield 26, 3) := by decide +kernel
theorem dX0_worked_187 : decode cX0_worked 187 = .ok (.iload 5, 2) := by decide +kernel
theorem dX0_worked_189 : decode cX0_worked 189 = .ok (.iconst 1, 1) := by decide +kernel
theorem dX0_worked_190 : decode cX0_worked 190 = .ok (.isub, 1) := by decide +kernel
theorem dX0_worked_191 : decode cX0_worked 191 = .ok (.iaload, 1) := by decide +kernel
theorem dX0_worked_192 : decode cX0_worked 192 = .ok (.aload_n 0, 1) := by decide +kernel
theorem dX0_worked_193 : decode cX0_worked 193 = .ok (.getfield 26, 3) := by decide +kernel
theorem dX0_worked_196 : decode cX0_worked 196 = .ok (.iload 5, 2) := by decide +kernel
theorem dX0_worked_198 : decode cX0_worked 198 = .ok (.iaload, 1) := by decide +kernel
theorem dX0_worked_199 : decode cX0_worked 199 = .ok (.invokestatic 48, 3) := by decide +kernel
theorem dX0_worked_202 : decode cX0_worked 202 = .ok (.iastore, 1) := by decide +kernel
theorem dX0_worked_203 : decode cX0_worked 203 = .ok (.iinc 6 1, 3) := by decide +kernel
theorem dX0_worked_206 : decode cX0_worked 206 = .ok (.goto (-200), 3) := by decide +kernel
theorem dX0_worked_209 : decode cX0_worked 209 = .ok (.aload_n 0, 1) := by decide +kernel
theorem dX0_worked_210 : decode cX0_worked 210 = .ok (.getfield 26, 3) := by decide +kernel
theorem dX0_worked_213 : decode cX0_worked 213 = .ok (.iconst 0, 1) := by decide +kernel
theorem dX0_worked_214 : decode cX0_worked 214 = .ok (.iaload, 1) := by decide +kernel
theorem dX0_worked_215 : decode cX0_worked 215 = .ok (.ireturn, 1) := by decide +kernel
theorem dX0_joined_0 : decode cX0_joined 0 = .ok (.iload_n 0, 1) := by decide +kernel
theorem dX0_joined_1 : decode cX0_joined 1 = .ok (.lookupswitch 148 #[(38, 89), (42, 144), (43, 136), (45, 140), (60, 103), (61, 114), (62, 125), (124, 75)], 75) := by decide +kernel
theorem dX0_joined_76 : decode cX0_joined 76 = .ok (.iload_n 1, 1) := by decide +kernel
theorem dX0_joined_77 : decode cX0_joined 77 = .ok (.ifCond .ne 7, 3) := by decide +kernel
theorem dX0_joined_80 : decode cX0_joined 80 = .ok (.iload_n 2, 1) := by decide +kernel
theorem dX0_joined_81 : decode cX0_joined 81 = .ok (.ifCond .eq 7, 3) := by decide +kernel
theorem dX0_joined_84 : decode cX0_joined 84 = .ok (.iconst 1, 1) := by decide +kernel
theorem dX0_joined_85 : decode cX0_joined 85 = .ok (.goto 4, 3) := by decide +kernel
theorem dX0_joined_88 : decode cX0_joined 88 = .ok (.iconst 0, 1) := by decide +kernel
theorem dX0_joined_89 : decode cX0_joined 89 = .ok (.ireturn, 1) := by decide +kernel
theorem dX0_joined_90 : decode cX0_joined 90 = .ok (.iload_n 1, 1) := by decide +kernel
theorem dX0_joined_91 : decode cX0_joined 91 = .ok (.ifCond .eq 11, 3) := by decide +kernel
theorem dX0_joined_94 : decode cX0_joined 94 = .ok (.iload_n 2, 1) := by decide +kernel
theorem dX0_joined_95 : decode cX0_joined 95 = .ok (.ifCond .eq 7, 3) := by decide +kernel
theorem dX0_joined_98 : decode cX0_joined 98 = .ok (.iconst 1, 1) := by decide +kernel
theorem dX0_joined_99 : decode cX0_joined 99 = .ok (.goto 4, 3) := by decide +kernel
theorem dX0_joined_102 : decode cX0_joined 102 = .ok (.iconst 0, 1) := by decide +kernel
theorem dX0_joined_103 : decode cX0_joined 103 = .ok (.ireturn, 1) := by decide +kernel
theorem dX0_joined_104 : decode cX0_joined 104 = .ok (.iload_n 1, 1) := by decide +kernel
theorem dX0_joined_105 : decode cX0_joined 105 = .ok (.iload_n 2, 1) := by decide +kernel
theorem dX0_joined_106 : decode cX0_joined 106 = .ok (.if_icmp .ge 7, 3) := by decide +kernel
theorem dX0_joined_109 : decode cX0_joined 109 = .ok (.iconst 1, 1) := by decide +kernel
theorem dX0_joined_110 : decode cX0_joined 110 = .ok (.goto 4, 3) := by decide +kernel
theorem dX0_joined_113 : decode cX0_joined 113 = .ok (.iconst 0, 1) := by decide +kernel
theorem dX0_joined_114 : decode cX0_joined 114 = .ok (.ireturn, 1) := by decide +kernel
theorem dX0_joined_115 : decode cX0_joined 115 = .ok (.iload_n 1, 1) := by decide +kernel
theorem dX0_joined_116 : decode cX0_joined 116 = .ok (.iload_n 2, 1) := by decide +kernel
theorem dX0_joined_117 : decode cX0_joined 117 = .ok (.if_icmp .ne 7, 3) := by decide +kernel
theorem dX0_joined_120 : decode cX0_joined 120 = .ok (.iconst 1, 1) := by decide +kernel
theorem dX0_joined_121 : decode cX0_joined 121 = .ok (.goto 4, 3) := by decide +kernel
theorem dX0_joined_124 : decode cX0_joined 124 = .ok (.iconst 0, 1) := by decide +kernel
theorem dX0_joined_125 : decode cX0_joined 125 = .ok (.ireturn, 1) := by decide +kernel
theorem dX0_joined_126 : decode cX0_joined 126 = .ok (.iload_n 1, 1) := by decide +kernel
theorem dX0_joined_127 : decode cX0_joined 127 = .ok (.iload_n 2, 1) := by decide +kernel
theorem dX0_joined_128 : decode cX0_joined 128 = .ok (.if_icmp .le 7, 3) := by decide +kernel
theorem dX0_joined_131 : decode cX0_joined 131 = .ok (.iconst 1, 1) := by decide +kernel
theorem dX0_joined_132 : decode cX0_joined 132 = .ok (.goto 4, 3) := by decide +kernel
theorem dX0_joined_135 : decode cX0_joined 135 = .ok (.iconst 0, 1) := by decide +kernel
theorem dX0_joined_136 : decode cX0_joined 136 = .ok (.ireturn, 1) := by decide +kernel
theorem dX0_joined_137 : decode cX0_joined 137 = .ok (.iload_n 1, 1) := by decide +kernel
theorem dX0_joined_138 : decode cX0_joined 138 = .ok (.iload_n 2, 1) := by decide +kernel
theorem dX0_joined_139 : decode cX0_joined 139 = .ok (.iadd, 1) := by decide +kernel
theorem dX0_joined_140 : decode cX0_joined 140 = .ok (.ireturn, 1) := by decide +kernel
theorem dX0_joined_141 : decode cX0_joined 141 = .ok (.iload_n 1, 1) := by decide +kernel
theorem dX0_joined_142 : decode cX0_joined 142 = .ok (.iload_n 2, 1) := by decide +kernel
theorem dX0_joined_143 : decode cX0_joined 143 = .ok (.isub, 1) := by decide +kernel
theorem dX0_joined_144 : decode cX0_joined 144 = .ok (.ireturn, 1) := by decide +kernel
theorem dX0_joined_145 : decode cX0_joined 145 = .ok (.iload_n 1, 1) := by decide +kernel
theorem dX0_joined_146 : decode cX0_joined 146 = .ok (.iload_n 2, 1) := by decide +kernel
theorem dX0_joined_147 : decode cX0_joined 147 = .ok (.imul, 1) := by decide +kernel
theorem dX0_joined_148 : decode cX0_joined 148 = .ok (.ireturn, 1) := by decide +kernel
theorem dX0_joined_149 : decode cX0_joined 149 = .ok (.iload_n 2, 1) := by decide +kernel
theorem dX0_joined_150 : decode cX0_joined 150 = .ok (.ifCond .ne 7, 3) := by decide +kernel
theorem dX0_joined_153 : decode cX0_joined 153 = .ok (.iconst 0, 1) := by decide +kernel
theorem dX0_joined_154 : decode cX0_joined 154 = .ok (.goto 6, 3) := by decide +kernel
theorem dX0_joined_157 : decode cX0_joined 157 = .ok (.iload_n 1, 1) := by decide +kernel
theorem dX0_joined_158 : decode cX0_joined 158 = .ok (.iload_n 2, 1) := by decide +kernel
theorem dX0_joined_159 : decode cX0_joined 159 = .ok (.idiv, 1) := by decide +kernel
theorem dX0_joined_160 : decode cX0_joined 160 = .ok (.ireturn, 1) := by decide +kernel
theorem dX1_init_0 : decode cX1_init 0 = .ok (.aload_n 0, 1) := by decide +kernel
theorem dX1_init_1 : decode cX1_init 1 = .ok (.invokespecial 1, 3) := by decide +kernel
theorem dX1_init_4 : decode cX1_init 4 = .ok (.aload_n 0, 1) := by decide +kernel
theorem dX1_init_5 : decode cX1_init 5 = .ok (.iconst 1, 1) := by decide +kernel
theorem dX1_init_6 : decode cX1_init 6 = .ok (.putfield 7, 3) := by decide +kernel
theorem dX1_init_9 : decode cX1_init 9 = .ok (.aload_n 0, 1) := by decide +kernel
theorem dX1_init_10 : decode cX1_init 10 = .ok (.iconst 0, 1) := by decide +kernel
theorem dX1_init_11 : decode cX1_init 11 = .ok (.putfield 13, 3) := by decide +kernel
theorem dX1_init_14 : decode cX1_init 14 = .ok (.aload_n 0, 1) := by decide +kernel
theorem dX1_init_15 : decode cX1_init 15 = .ok (.iconst 0, 1) := by decide +kernel
theorem dX1_init_16 : decode cX1_init 16 = .ok (.putfield 17, 3) := by decide +kernel
theorem dX1_init_19 : decode cX1_init 19 = .ok (.return_, 1) := by decide +kernel
theorem dX1_begin_0 : decode cX1_begin 0 = .ok (.aload_n 0, 1) := by decide +kernel
theorem dX1_begin_1 : decode cX1_begin 1 = .ok (.iconst 1, 1) := by decide +kernel
theorem dX1_begin_2 : decode cX1_begin 2 = .ok (.putfield 7, 3) := by decide +kernel
theorem dX1_begin_5 : decode cX1_begin 5 = .ok (.return_, 1) := by decide +kernel
theorem dX1_offer_0 : decode cX1_offer 0 = .ok (.aload_n 0, 1) := by decide +kernel
theorem dX1_offer_1 : decode cX1_offer 1 = .ok (.getfield 7, 3) := by decide +kernel
theorem dX1_offer_4 : decode cX1_offer 4 = .ok (.ifCond .ne 11, 3) := by decide +kernel
theorem dX1_offer_7 : decode cX1_offer 7 = .ok (.iload_n 2, 1) := by decide +kernel
theorem dX1_offer_8 : decode cX1_offer 8 = .ok (.aload_n 0, 1) := by decide +kernel
theorem dX1_offer_9 : decode cX1_offer 9 = .ok (.getfield 17, 3) := by decide +kernel
theorem dX1_offer_12 : decode cX1_offer 12 = .ok (.if_icmp .le 18, 3) := by decide +kernel
theorem dX1_offer_15 : decode cX1_offer 15 = .ok (.aload_n 0, 1) := by decide +kernel
theorem dX1_offer_16 : decode cX1_offer 16 = .ok (.iconst 0, 1) := by decide +kernel
theorem dX1_offer_17 : decode cX1_offer 17 = .ok (.putfield 7, 3) := by decide +kernel
theorem dX1_offer_20 : decode cX1_offer 20 = .ok (.aload_n 0, 1) := by decide +kernel
theorem dX1_offer_21 : decode cX1_offer 21 = .ok (.iload_n 1, 1) := by decide +kernel
theorem dX1_offer_22 : decode cX1_offer 22 = .ok (.putfield 13, 3) := by decide +kernel
theorem dX1_offer_25 : decode cX1_offer 25 = .ok (.aload_n 0, 1) := by decide +kernel
theorem dX1_offer_26 : decode cX1_offer 26 = .ok (.iload_n 2, 1) := by decide +kernel
theorem dX1_offer_27 : decode cX1_offer 27 = .ok (.putfield 17, 3) := by decide +kernel
theorem dX1_offer_30 : decode cX1_offer 30 = .ok (.return_, 1) := by decide +kernel
theorem dX2_init_0 : decode cX2_init 0 = .ok (.aload_n 0, 1) := by decide +kernel
theorem dX2_init_1 : decode cX2_init 1 = .ok (.invokespecial 3, 3) := by decide +kernel
theorem dX2_init_4 : decode cX2_init 4 = .ok (.aload_n 0, 1) := by decide +kernel
theorem dX2_init_5 : decode cX2_init 5 = .ok (.bipush 9, 2) := by decide +kernel
theorem dX2_init_7 : decode cX2_init 7 = .ok (.bipush 10, 2) := by decide +kernel
theorem dX2_init_9 : decode cX2_init 9 = .ok (.multianewarray 9 2, 4) := by decide +kernel
theorem dX2_init_13 : decode cX2_init 13 = .ok (.putfield 11, 3) := by decide +kernel
theorem dX2_init_16 : decode cX2_init 16 = .ok (.aload_n 0, 1) := by decide +kernel
theorem dX2_init_17 : decode cX2_init 17 = .ok (.iconst 0, 1) := by decide +kernel
theorem dX2_init_18 : decode cX2_init 18 = .ok (.putfield 16, 3) := by decide +kernel
theorem dX2_init_21 : decode cX2_init 21 = .ok (.aload_n 0, 1) := by decide +kernel
theorem dX2_init_22 : decode cX2_init 22 = .ok (.iconst 0, 1) := by decide +kernel
theorem dX2_init_23 : decode cX2_init 23 = .ok (.putfield 20, 3) := by decide +kernel
theorem dX2_init_26 : decode cX2_init 26 = .ok (.aload_n 0, 1) := by decide +kernel
theorem dX2_init_27 : decode cX2_init 27 = .ok (.bipush 10, 2) := by decide +kernel
theorem dX2_init_29 : decode cX2_init 29 = .ok (.putfield 23, 3) := by decide +kernel
theorem dX2_init_32 : decode cX2_init 32 = .ok (.aload_n 0, 1) := by decide +kernel
theorem dX2_init_33 : decode cX2_init 33 = .ok (.iconst 0, 1) := by decide +kernel
theorem dX2_init_34 : decode cX2_init 34 = .ok (.putfield 26, 3) := by decide +kernel
theorem dX2_init_37 : decode cX2_init 37 = .ok (.aload_n 0, 1) := by decide +kernel
theorem dX2_init_38 : decode cX2_init 38 = .ok (.iconst 1, 1) := by decide +kernel
theorem dX2_init_39 : decode cX2_init 39 = .ok (.putfield 29, 3) := by decide +kernel
theorem dX2_init_42 : decode cX2_init 42 = .ok (.aload_n 0, 1) := by decide +kernel
theorem dX2_init_43 : decode cX2_init 43 = .ok (.iconst 0, 1) := by decide +kernel
theorem dX2_init_44 : decode cX2_init 44 = .ok (.putfield 32, 3) := by decide +kernel
theorem dX2_init_47 : decode cX2_init 47 = .ok (.aload_n 0, 1) := by decide +kernel
theorem dX2_init_48 : decode cX2_init 48 = .ok (.iconst 3, 1) := by decide +kernel
theorem dX2_init_49 : decode cX2_init 49 = .ok (.newarray .int, 2) := by decide +kernel
theorem dX2_init_51 : decode cX2_init 51 = .ok (.dup, 1) := by decide +kernel
theorem dX2_init_52 : decode cX2_init 52 = .ok (.iconst 0, 1) := by decide +kernel
theorem dX2_init_53 : decode cX2_init 53 = .ok (.iconst (-1), 1) := by decide +kernel
theorem dX2_init_54 : decode cX2_init 54 = .ok (.iastore, 1) := by decide +kernel
theorem dX2_init_55 : decode cX2_init 55 = .ok (.dup, 1) := by decide +kernel
theorem dX2_init_56 : decode cX2_init 56 = .ok (.iconst 1, 1) := by decide +kernel
theorem dX2_init_57 : decode cX2_init 57 = .ok (.iconst (-1), 1) := by decide +kernel
theorem dX2_init_58 : decode cX2_init 58 = .ok (.iastore, 1) := by decide +kernel
theorem dX2_init_59 : decode cX2_init 59 = .ok (.dup, 1) := by decide +kernel
theorem dX2_init_60 : decode cX2_init 60 = .ok (.iconst 2, 1) := by decide +kernel
theorem dX2_init_61 : decode cX2_init 61 = .ok (.iconst (-1), 1) := by decide +kernel
theorem dX2_init_62 : decode cX2_init 62 = .ok (.iastore, 1) := by decide +kernel
theorem dX2_init_63 : decode cX2_init 63 = .ok (.putfield 35, 3) := by decide +kernel
theorem dX2_init_66 : decode cX2_init 66 = .ok (.aload_n 0, 1) := by decide +kernel
theorem dX2_init_67 : decode cX2_init 67 = .ok (.bipush 10, 2) := by decide +kernel
theorem dX2_init_69 : decode cX2_init 69 = .ok (.newarray .int, 2) := by decide +kernel
theorem dX2_init_71 : decode cX2_init 71 = .ok (.putfield 39, 3) := by decide +kernel
theorem dX2_init_74 : decode cX2_init 74 = .ok (.aload_n 0, 1) := by decide +kernel
theorem dX2_init_75 : decode cX2_init 75 = .ok (.aload_n 1, 1) := by decide +kernel
theorem dX2_init_76 : decode cX2_init 76 = .ok (.putfield 42, 3) := by decide +kernel
theorem dX2_init_79 : decode cX2_init 79 = .ok (.return_, 1) := by decide +kernel
theorem dX2_become_0 : decode cX2_become 0 = .ok (.iconst 0, 1) := by decide +kernel
theorem dX2_become_1 : decode cX2_become 1 = .ok (.istore_n 2, 1) := by decide +kernel
theorem dX2_become_2 : decode cX2_become 2 = .ok (.iload_n 2, 1) := by decide +kernel
theorem dX2_become_3 : decode cX2_become 3 = .ok (.bipush 9, 2) := by decide +kernel
theorem dX2_become_5 : decode cX2_become 5 = .ok (.if_icmp .ge 28, 3) := by decide +kernel
theorem dX2_become_8 : decode cX2_become 8 = .ok (.aload_n 1, 1) := by decide +kernel
theorem dX2_become_9 : decode cX2_become 9 = .ok (.getfield 11, 3) := by decide +kernel
theorem dX2_become_12 : decode cX2_become 12 = .ok (.iload_n 2, 1) := by decide +kernel
theorem dX2_become_13 : decode cX2_become 13 = .ok (.aaload, 1) := by decide +kernel
theorem dX2_become_14 : decode cX2_become 14 = .ok (.iconst 0, 1) := by decide +kernel
theorem dX2_become_15 : decode cX2_become 15 = .ok (.aload_n 0, 1) := by decide +kernel
theorem dX2_become_16 : decode cX2_become 16 = .ok (.getfield 11, 3) := by decide +kernel
theorem dX2_become_19 : decode cX2_become 19 = .ok (.iload_n 2, 1) := by decide +kernel
theorem dX2_become_20 : decode cX2_become 20 = .ok (.aaload, 1) := by decide +kernel
theorem dX2_become_21 : decode cX2_become 21 = .ok (.iconst 0, 1) := by decide +kernel
theorem dX2_become_22 : decode cX2_become 22 = .ok (.bipush 10, 2) := by decide +kernel
theorem dX2_become_24 : decode cX2_become 24 = .ok (.invokestatic 46, 3) := by decide +kernel
theorem dX2_become_27 : decode cX2_become 27 = .ok (.iinc 2 1, 3) := by decide +kernel
theorem dX2_become_30 : decode cX2_become 30 = .ok (.goto (-28), 3) := by decide +kernel
theorem dX2_become_33 : decode cX2_become 33 = .ok (.aload_n 1, 1) := by decide +kernel
theorem dX2_become_34 : decode cX2_become 34 = .ok (.getfield 35, 3) := by decide +kernel
theorem dX2_become_37 : decode cX2_become 37 = .ok (.iconst 0, 1) := by decide +kernel
theorem dX2_become_38 : decode cX2_become 38 = .ok (.aload_n 0, 1) := by decide +kernel
theorem dX2_become_39 : decode cX2_become 39 = .ok (.getfield 35, 3) := by decide +kernel
theorem dX2_become_42 : decode cX2_become 42 = .ok (.iconst 0, 1) := by decide +kernel
theorem dX2_become_43 : decode cX2_become 43 = .ok (.aload_n 0, 1) := by decide +kernel
theorem dX2_become_44 : decode cX2_become 44 = .ok (.getfield 35, 3) := by decide +kernel
theorem dX2_become_47 : decode cX2_become 47 = .ok (.arraylength, 1) := by decide +kernel
theorem dX2_become_48 : decode cX2_become 48 = .ok (.invokestatic 46, 3) := by decide +kernel
theorem dX2_become_51 : decode cX2_become 51 = .ok (.aload_n 0, 1) := by decide +kernel
theorem dX2_become_52 : decode cX2_become 52 = .ok (.aload_n 1, 1) := by decide +kernel
theorem dX2_become_53 : decode cX2_become 53 = .ok (.getfield 16, 3) := by decide +kernel
theorem dX2_become_56 : decode cX2_become 56 = .ok (.putfield 16, 3) := by decide +kernel
theorem dX2_become_59 : decode cX2_become 59 = .ok (.aload_n 0, 1) := by decide +kernel
theorem dX2_become_60 : decode cX2_become 60 = .ok (.aload_n 1, 1) := by decide +kernel
theorem dX2_become_61 : decode cX2_become 61 = .ok (.getfield 20, 3) := by decide +kernel
theorem dX2_become_64 : decode cX2_become 64 = .ok (.putfield 20, 3) := by decide +kernel
theorem dX2_become_67 : decode cX2_become 67 = .ok (.aload_n 0, 1) := by decide +kernel
theorem dX2_become_68 : decode cX2_become 68 = .ok (.aload_n 1, 1) := by decide +kernel
theorem dX2_become_69 : decode cX2_become 69 = .ok (.getfield 23, 3) := by decide +kernel
theorem dX2_become_72 : decode cX2_become 72 = .ok (.putfield 23, 3) := by decide +kernel
theorem dX2_become_75 : decode cX2_become 75 = .ok (.aload_n 0, 1) := by decide +kernel
theorem dX2_become_76 : decode cX2_become 76 = .ok (.aload_n 1, 1) := by decide +kernel
theorem dX2_become_77 : decode cX2_become 77 = .ok (.getfield 26, 3) := by decide +kernel
theorem dX2_become_80 : decode cX2_become 80 = .ok (.putfield 26, 3) := by decide +kernel
theorem dX2_become_83 : decode cX2_become 83 = .ok (.aload_n 0, 1) := by decide +kernel
theorem dX2_become_84 : decode cX2_become 84 = .ok (.aload_n 1, 1) := by decide +kernel
theorem dX2_become_85 : decode cX2_become 85 = .ok (.getfield 29, 3) := by decide +kernel
theorem dX2_become_88 : decode cX2_become 88 = .ok (.putfield 29, 3) := by decide +kernel
theorem dX2_become_91 : decode cX2_become 91 = .ok (.aload_n 0, 1) := by decide +kernel
theorem dX2_become_92 : decode cX2_become 92 = .ok (.aload_n 1, 1) := by decide +kernel
theorem dX2_become_93 : decode cX2_become 93 = .ok (.getfield 32, 3) := by decide +kernel
theorem dX2_become_96 : decode cX2_become 96 = .ok (.putfield 32, 3) := by decide +kernel
theorem dX2_become_99 : decode cX2_become 99 = .ok (.return_, 1) := by decide +kernel
theorem dX2_draw_0 : decode cX2_draw 0 = .ok (.aload_n 0, 1) := by decide +kernel
theorem dX2_draw_1 : decode cX2_draw 1 = .ok (.aload_n 0, 1) := by decide +kernel
theorem dX2_draw_2 : decode cX2_draw 2 = .ok (.getfield 29, 3) := by decide +kernel
theorem dX2_draw_5 : decode cX2_draw 5 = .ok (.ldc 52, 2) := by decide +kernel
theorem dX2_draw_7 : decode cX2_draw 7 = .ok (.imul, 1) := by decide +kernel
theorem dX2_draw_8 : decode cX2_draw 8 = .ok (.sipush 12345, 3) := by decide +kernel
theorem dX2_draw_11 : decode cX2_draw 11 = .ok (.iadd, 1) := by decide +kernel
theorem dX2_draw_12 : decode cX2_draw 12 = .ok (.putfield 29, 3) := by decide +kernel
theorem dX2_draw_15 : decode cX2_draw 15 = .ok (.aload_n 0, 1) := by decide +kernel
theorem dX2_draw_16 : decode cX2_draw 16 = .ok (.getfield 29, 3) := by decide +kernel
theorem dX2_draw_19 : decode cX2_draw 19 = .ok (.bipush 8, 2) := by decide +kernel
theorem dX2_draw_21 : decode cX2_draw 21 = .ok (.iushr, 1) := by decide +kernel
theorem dX2_draw_22 : decode cX2_draw 22 = .ok (.ireturn, 1) := by decide +kernel
theorem dX2_takeIn_0 : decode cX2_takeIn 0 = .ok (.aload_n 0, 1) := by decide +kernel
theorem dX2_takeIn_1 : decode cX2_takeIn 1 = .ok (.getfield 16, 3) := by decide +kernel
theorem dX2_takeIn_4 : decode cX2_takeIn 4 = .ok (.istore 4, 2) := by decide +kernel
theorem dX2_takeIn_6 : decode cX2_takeIn 6 = .ok (.iconst 0, 1) := by decide +kernel
theorem dX2_takeIn_7 : decode cX2_takeIn 7 = .ok (.istore 5, 2) := by decide +kernel
theorem dX2_takeIn_9 : decode cX2_takeIn 9 = .ok (.iload 5, 2) := by decide +kernel
theorem dX2_takeIn_11 : decode cX2_takeIn 11 = .ok (.bipush 9, 2) := by decide +kernel
theorem dX2_takeIn_13 : decode cX2_takeIn 13 = .ok (.if_icmp .ge 20, 3) := by decide +kernel
theorem dX2_takeIn_16 : decode cX2_takeIn 16 = .ok (.aload_n 0, 1) := by decide +kernel
theorem dX2_takeIn_17 : decode cX2_takeIn 17 = .ok (.getfield 11, 3) := by decide +kernel
theorem dX2_takeIn_20 : decode cX2_takeIn 20 = .ok (.iload 5, 2) := by decide +kernel
theorem dX2_takeIn_22 : decode cX2_takeIn 22 = .ok (.aaload, 1) := by decide +kernel
theorem dX2_takeIn_23 : decode cX2_takeIn 23 = .ok (.iload 4, 2) := by decide +kernel
theorem dX2_takeIn_25 : decode cX2_takeIn 25 = .ok (.iconst 0, 1) := by decide +kernel
theorem dX2_takeIn_26 : decode cX2_takeIn 26 = .ok (.iastore, 1) := by decide +kernel
theorem dX2_takeIn_27 : decode cX2_takeIn 27 = .ok (.iinc 5 1, 3) := by decide +kernel
theorem dX2_takeIn_30 : decode cX2_takeIn 30 = .ok (.goto (-21), 3) := by decide +kernel
theorem dX2_takeIn_33 : decode cX2_takeIn 33 = .ok (.aload_n 0, 1) := by decide +kernel
theorem dX2_takeIn_34 : decode cX2_takeIn 34 = .ok (.getfield 11, 3) := by decide +kernel
theorem dX2_takeIn_37 : decode cX2_takeIn 37 = .ok (.iconst 0, 1) := by decide +kernel
theorem dX2_takeIn_38 : decode cX2_takeIn 38 = .ok (.aaload, 1) := by decide +kernel
theorem dX2_takeIn_39 : decode cX2_takeIn 39 = .ok (.iload 4, 2) := by decide +kernel
theorem dX2_takeIn_41 : decode cX2_takeIn 41 = .ok (.iload_n 1, 1) := by decide +kernel
theorem dX2_takeIn_42 : decode cX2_takeIn 42 = .ok (.iastore, 1) := by decide +kernel
theorem dX2_takeIn_43 : decode cX2_takeIn 43 = .ok (.aload_n 0, 1) := by decide +kernel
theorem dX2_takeIn_44 : decode cX2_takeIn 44 = .ok (.getfield 11, 3) := by decide +kernel
theorem dX2_takeIn_47 : decode cX2_takeIn 47 = .ok (.iconst 1, 1) := by decide +kernel
theorem dX2_takeIn_48 : decode cX2_takeIn 48 = .ok (.aaload, 1) := by decide +kernel
theorem dX2_takeIn_49 : decode cX2_takeIn 49 = .ok (.iload 4, 2) := by decide +kernel
theorem dX2_takeIn_51 : decode cX2_takeIn 51 = .ok (.iload_n 2, 1) := by decide +kernel
theorem dX2_takeIn_52 : decode cX2_takeIn 52 = .ok (.iastore, 1) := by decide +kernel
theorem dX2_takeIn_53 : decode cX2_takeIn 53 = .ok (.aload_n 0, 1) := by decide +kernel
theorem dX2_takeIn_54 : decode cX2_takeIn 54 = .ok (.getfield 11, 3) := by decide +kernel
theorem dX2_takeIn_57 : decode cX2_takeIn 57 = .ok (.iconst 2, 1) := by decide +kernel
theorem dX2_takeIn_58 : decode cX2_takeIn 58 = .ok (.aaload, 1) := by decide +kernel
theorem dX2_takeIn_59 : decode cX2_takeIn 59 = .ok (.iload 4, 2) := by decide +kernel
theorem dX2_takeIn_61 : decode cX2_takeIn 61 = .ok (.iload_n 3, 1) := by decide +kernel
theorem dX2_takeIn_62 : decode cX2_takeIn 62 = .ok (.iastore, 1) := by decide +kernel
theorem dX2_takeIn_63 : decode cX2_takeIn 63 = .ok (.aload_n 0, 1) := by decide +kernel
theorem dX2_takeIn_64 : decode cX2_takeIn 64 = .ok (.dup, 1) := by decide +kernel
theorem dX2_takeIn_65 : decode cX2_takeIn 65 = .ok (.getfield 16, 3) := by decide +kernel
theorem dX2_takeIn_68 : decode cX2_takeIn 68 = .ok (.iconst 1, 1) := by decide +kernel
theorem dX2_takeIn_69 : decode cX2_takeIn 69 = .ok (.iadd, 1) := by decide +kernel
theorem dX2_takeIn_70 : decode cX2_takeIn 70 = .ok (.putfield 16, 3) := by decide +kernel
theorem dX2_takeIn_73 : decode cX2_takeIn 73 = .ok (.iload 4, 2) := by decide +kernel
theorem dX2_takeIn_75 : decode cX2_takeIn 75 = .ok (.ireturn, 1) := by decide +kernel
theorem dX2_change_0 : decode cX2_change 0 = .ok (.aload_n 0, 1) := by decide +kernel
theorem dX2_change_1 : decode cX2_change 1 = .ok (.getfield 11, 3) := by decide +kernel
theorem dX2_change_4 : decode cX2_change 4 = .ok (.iload_n 2, 1) := by decide +kernel
theorem dX2_change_5 : decode cX2_change 5 = .ok (.aaload, 1) := by decide +kernel
theorem dX2_change_6 : decode cX2_change 6 = .ok (.iload_n 1, 1) := by decide +kernel
theorem dX2_change_7 : decode cX2_change 7 = .ok (.iaload, 1) := by decide +kernel
theorem dX2_change_8 : decode cX2_change 8 = .ok (.istore 4, 2) := by decide +kernel
theorem dX2_change_10 : decode cX2_change 10 = .ok (.aload_n 0, 1) := by decide +kernel
theorem dX2_change_11 : decode cX2_change 11 = .ok (.getfield 11, 3) := by decide +kernel
theorem dX2_change_14 : decode cX2_change 14 = .ok (.iload_n 2, 1) := by decide +kernel
theorem dX2_change_15 : decode cX2_change 15 = .ok (.aaload, 1) := by decide +kernel
theorem dX2_change_16 : decode cX2_change 16 = .ok (.iload_n 1, 1) := by decide +kernel
theorem dX2_change_17 : decode cX2_change 17 = .ok (.iload_n 3, 1) := by decide +kernel
theorem dX2_change_18 : decode cX2_change 18 = .ok (.iastore, 1) := by decide +kernel
theorem dX2_change_19 : decode cX2_change 19 = .ok (.iload 4, 2) := by decide +kernel
theorem dX2_change_21 : decode cX2_change 21 = .ok (.ireturn, 1) := by decide +kernel
theorem dX2_together_0 : decode cX2_together 0 = .ok (.iconst 0, 1) := by decide +kernel
theorem dX2_together_1 : decode cX2_together 1 = .ok (.istore_n 2, 1) := by decide +kernel
theorem dX2_together_2 : decode cX2_together 2 = .ok (.iconst 0, 1) := by decide +kernel
theorem dX2_together_3 : decode cX2_together 3 = .ok (.istore_n 3, 1) := by decide +kernel
theorem dX2_together_4 : decode cX2_together 4 = .ok (.iload_n 3, 1) := by decide +kernel
theorem dX2_together_5 : decode cX2_together 5 = .ok (.aload_n 0, 1) := by decide +kernel
theorem dX2_together_6 : decode cX2_together 6 = .ok (.getfield 16, 3) := by decide +kernel
theorem dX2_together_9 : decode cX2_together 9 = .ok (.if_icmp .ge 20, 3) := by decide +kernel
theorem dX2_together_12 : decode cX2_together 12 = .ok (.iload_n 2, 1) := by decide +kernel
theorem dX2_together_13 : decode cX2_together 13 = .ok (.aload_n 0, 1) := by decide +kernel
theorem dX2_together_14 : decode cX2_together 14 = .ok (.getfield 11, 3) := by decide +kernel
theorem dX2_together_17 : decode cX2_together 17 = .ok (.iload_n 1, 1) := by decide +kernel
theorem dX2_together_18 : decode cX2_together 18 = .ok (.aaload, 1) := by decide +kernel
theorem dX2_together_19 : decode cX2_together 19 = .ok (.iload_n 3, 1) := by decide +kernel
theorem dX2_together_20 : decode cX2_together 20 = .ok (.iaload, 1) := by decide +kernel
theorem dX2_together_21 : decode cX2_together 21 = .ok (.iadd, 1) := by decide +kernel
theorem dX2_together_22 : decode cX2_together 22 = .ok (.istore_n 2, 1) := by decide +kernel
theorem dX2_together_23 : decode cX2_together 23 = .ok (.iinc 3 1, 3) := by decide +kernel
theorem dX2_together_26 : decode cX2_together 26 = .ok (.goto (-22), 3) := by decide +kernel
theorem dX2_together_29 : decode cX2_together 29 = .ok (.iload_n 2, 1) := by decide +kernel
theorem dX2_together_30 : decode cX2_together 30 = .ok (.ireturn, 1) := by decide +kernel
theorem dX2_setOnStair_0 : decode cX2_setOnStair 0 = .ok (.iconst 0, 1) := by decide +kernel
theorem dX2_setOnStair_1 : decode cX2_setOnStair 1 = .ok (.istore_n 2, 1) := by decide +kernel
theorem dX2_setOnStair_2 : decode cX2_setOnStair 2 = .ok (.iconst 0, 1) := by decide +kernel
theorem dX2_setOnStair_3 : decode cX2_setOnStair 3 = .ok (.istore_n 3, 1) := by decide +kernel
theorem dX2_setOnStair_4 : decode cX2_setOnStair 4 = .ok (.iload_n 3, 1) := by decide +kernel
theorem dX2_setOnStair_5 : decode cX2_setOnStair 5 = .ok (.aload_n 0, 1) := by decide +kernel
theorem dX2_setOnStair_6 : decode cX2_setOnStair 6 = .ok (.getfield 16, 3) := by decide +kernel
theorem dX2_setOnStair_9 : decode cX2_setOnStair 9 = .ok (.if_icmp .ge 27, 3) := by decide +kernel
theorem dX2_setOnStair_12 : decode cX2_setOnStair 12 = .ok (.aload_n 0, 1) := by decide +kernel
theorem dX2_setOnStair_13 : decode cX2_setOnStair 13 = .ok (.getfield 11, 3) := by decide +kernel
theorem dX2_setOnStair_16 : decode cX2_setOnStair 16 = .ok (.iconst 1, 1) := by decide +kernel
theorem dX2_setOnStair_17 : decode cX2_setOnStair 17 = .ok (.aaload, 1) := by decide +kernel
theorem dX2_setOnStair_18 : decode cX2_setOnStair 18 = .ok (.iload_n 3, 1) := by decide +kernel
theorem dX2_setOnStair_19 : decode cX2_setOnStair 19 = .ok (.iaload, 1) := by decide +kernel
theorem dX2_setOnStair_20 : decode cX2_setOnStair 20 = .ok (.iload_n 1, 1) := by decide +kernel
theorem dX2_setOnStair_21 : decode cX2_setOnStair 21 = .ok (.if_icmp .ne 9, 3) := by decide +kernel
theorem dX2_setOnStair_24 : decode cX2_setOnStair 24 = .ok (.iload_n 2, 1) := by decide +kernel
theorem dX2_setOnStair_25 : decode cX2_setOnStair 25 = .ok (.iconst 1, 1) := by decide +kernel
theorem dX2_setOnStair_26 : decode cX2_setOnStair 26 = .ok (.iload_n 3, 1) := by decide +kernel
theorem dX2_setOnStair_27 : decode cX2_setOnStair 27 = .ok (.ishl, 1) := by decide +kernel
theorem dX2_setOnStair_28 : decode cX2_setOnStair 28 = .ok (.ior, 1) := by decide +kernel
theorem dX2_setOnStair_29 : decode cX2_setOnStair 29 = .ok (.istore_n 2, 1) := by decide +kernel
theorem dX2_setOnStair_30 : decode cX2_setOnStair 30 = .ok (.iinc 3 1, 3) := by decide +kernel
theorem dX2_setOnStair_33 : decode cX2_setOnStair 33 = .ok (.goto (-29), 3) := by decide +kernel
theorem dX2_setOnStair_36 : decode cX2_setOnStair 36 = .ok (.iload_n 2, 1) := by decide +kernel
theorem dX2_setOnStair_37 : decode cX2_setOnStair 37 = .ok (.ireturn, 1) := by decide +kernel
theorem dX2_burnsTill_0 : decode cX2_burnsTill 0 = .ok (.aload_n 0, 1) := by decide +kernel
theorem dX2_burnsTill_1 : decode cX2_burnsTill 1 = .ok (.getfield 11, 3) := by decide +kernel
theorem dX2_burnsTill_4 : decode cX2_burnsTill 4 = .ok (.iconst 2, 1) := by decide +kernel
theorem dX2_burnsTill_5 : decode cX2_burnsTill 5 = .ok (.aaload, 1) := by decide +kernel
theorem dX2_burnsTill_6 : decode cX2_burnsTill 6 = .ok (.iload_n 1, 1) := by decide +kernel
theorem dX2_burnsTill_7 : decode cX2_burnsTill 7 = .ok (.iaload, 1) := by decide +kernel
theorem dX2_burnsTill_8 : decode cX2_burnsTill 8 = .ok (.istore_n 3, 1) := by decide +kernel
theorem dX2_burnsTill_9 : decode cX2_burnsTill 9 = .ok (.aload_n 0, 1) := by decide +kernel
theorem dX2_burnsTill_10 : decode cX2_burnsTill 10 = .ok (.getfield 11, 3) := by decide +kernel
theorem dX2_burnsTill_13 : decode cX2_burnsTill 13 = .ok (.iconst 4, 1) := by decide +kernel
theorem dX2_burnsTill_14 : decode cX2_burnsTill 14 = .ok (.aaload, 1) := by decide +kernel
theorem dX2_burnsTill_15 : decode cX2_burnsTill 15 = .ok (.iload_n 1, 1) := by decide +kernel
theorem dX2_burnsTill_16 : decode cX2_burnsTill 16 = .ok (.iaload, 1) := by decide +kernel
theorem dX2_burnsTill_17 : decode cX2_burnsTill 17 = .ok (.istore 4, 2) := by decide +kernel
theorem dX2_burnsTill_19 : decode cX2_burnsTill 19 = .ok (.aload_n 0, 1) := by decide +kernel
theorem dX2_burnsTill_20 : decode cX2_burnsTill 20 = .ok (.getfield 35, 3) := by decide +kernel
theorem dX2_burnsTill_23 : decode cX2_burnsTill 23 = .ok (.iconst 0, 1) := by decide +kernel
theorem dX2_burnsTill_24 : decode cX2_burnsTill 24 = .ok (.iaload, 1) := by decide +kernel
theorem dX2_burnsTill_25 : decode cX2_burnsTill 25 = .ok (.istore 5, 2) := by decide +kernel
theorem dX2_burnsTill_27 : decode cX2_burnsTill 27 = .ok (.iload 5, 2) := by decide +kernel
theorem dX2_burnsTill_29 : decode cX2_burnsTill 29 = .ok (.ifCond .ge 12, 3) := by decide +kernel
theorem dX2_burnsTill_32 : decode cX2_burnsTill 32 = .ok (.iload_n 3, 1) := by decide +kernel
theorem dX2_burnsTill_33 : decode cX2_burnsTill 33 = .ok (.iload 4, 2) := by decide +kernel
theorem dX2_burnsTill_35 : decode cX2_burnsTill 35 = .ok (.isub, 1) := by decide +kernel
theorem dX2_burnsTill_36 : decode cX2_burnsTill 36 = .ok (.iload_n 2, 1) := by decide +kernel
theorem dX2_burnsTill_37 : decode cX2_burnsTill 37 = .ok (.iadd, 1) := by decide +kernel
theorem dX2_burnsTill_38 : decode cX2_burnsTill 38 = .ok (.goto 16, 3) := by decide +kernel
theorem dX2_burnsTill_41 : decode cX2_burnsTill 41 = .ok (.aload_n 0, 1) := by decide +kernel
theorem dX2_burnsTill_42 : decode cX2_burnsTill 42 = .ok (.getfield 42, 3) := by decide +kernel
theorem dX2_burnsTill_45 : decode cX2_burnsTill 45 = .ok (.iload 5, 2) := by decide +kernel
theorem dX2_burnsTill_47 : decode cX2_burnsTill 47 = .ok (.iload_n 3, 1) := by decide +kernel
theorem dX2_burnsTill_48 : decode cX2_burnsTill 48 = .ok (.iload 4, 2) := by decide +kernel
theorem dX2_burnsTill_50 : decode cX2_burnsTill 50 = .ok (.iload_n 2, 1) := by decide +kernel
theorem dX2_burnsTill_51 : decode cX2_burnsTill 51 = .ok (.invokevirtual 53, 3) := by decide +kernel
theorem dX2_burnsTill_54 : decode cX2_burnsTill 54 = .ok (.istore 6, 2) := by decide +kernel
theorem dX2_burnsTill_56 : decode cX2_burnsTill 56 = .ok (.aload_n 0, 1) := by decide +kernel
theorem dX2_burnsTill_57 : decode cX2_burnsTill 57 = .ok (.getfield 11, 3) := by decide +kernel
theorem dX2_burnsTill_60 : decode cX2_burnsTill 60 = .ok (.iconst 0, 1) := by decide +kernel
theorem dX2_burnsTill_61 : decode cX2_burnsTill 61 = .ok (.aaload, 1) := by decide +kernel
theorem dX2_burnsTill_62 : decode cX2_burnsTill 62 = .ok (.iload_n 1, 1) := by decide +kernel
theorem dX2_burnsTill_63 : decode cX2_burnsTill 63 = .ok (.iaload, 1) := by decide +kernel
theorem dX2_burnsTill_64 : decode cX2_burnsTill 64 = .ok (.iload 6, 2) := by decide +kernel
theorem dX2_burnsTill_66 : decode cX2_burnsTill 66 = .ok (.sipush 599, 3) := by decide +kernel
theorem dX2_burnsTill_69 : decode cX2_burnsTill 69 = .ok (.invokestatic 59, 3) := by decide +kernel
theorem dX2_burnsTill_72 : decode cX2_burnsTill 72 = .ok (.iload_n 2, 1) := by decide +kernel
theorem dX2_burnsTill_73 : decode cX2_burnsTill 73 = .ok (.invokestatic 63, 3) := by decide +kernel
theorem dX2_burnsTill_76 : decode cX2_burnsTill 76 = .ok (.ireturn, 1) := by decide +kernel
theorem dX2_passNights_0 : decode cX2_passNights 0 = .ok (.iconst 0, 1) := by decide +kernel
theorem dX2_passNights_1 : decode cX2_passNights 1 = .ok (.istore_n 2, 1) := by decide +kernel
theorem dX2_passNights_2 : decode cX2_passNights 2 = .ok (.iconst 0, 1) := by decide +kernel
theorem dX2_passNights_3 : decode cX2_passNights 3 = .ok (.istore_n 3, 1) := by decide +kernel
theorem dX2_passNights_4 : decode cX2_passNights 4 = .ok (.iload_n 3, 1) := by decide +kernel
theorem dX2_passNights_5 : decode cX2_passNights 5 = .ok (.iload_n 1, 1) := by decide +kernel
theorem dX2_passNights_6 : decode cX2_passNights 6 = .ok (.if_icmp .ge 16, 3) := by decide +kernel
theorem dX2_passNights_9 : decode cX2_passNights 9 = .ok (.iload_n 2, 1) := by decide +kernel
theorem dX2_passNights_10 : decode cX2_passNights 10 = .ok (.aload_n 0, 1) := by decide +kernel
theorem dX2_passNights_11 : decode cX2_passNights 11 = .ok (.invokevirtual 69, 3) := by decide +kernel
theorem dX2_passNights_14 : decode cX2_passNights 14 = .ok (.iadd, 1) := by decide +kernel
theorem dX2_passNights_15 : decode cX2_passNights 15 = .ok (.istore_n 2, 1) := by decide +kernel
theorem dX2_passNights_16 : decode cX2_passNights 16 = .ok (.iinc 3 1, 3) := by decide +kernel
theorem dX2_passNights_19 : decode cX2_passNights 19 = .ok (.goto (-15), 3) := by decide +kernel
theorem dX2_passNights_22 : decode cX2_passNights 22 = .ok (.iload_n 2, 1) := by decide +kernel
theorem dX2_passNights_23 : decode cX2_passNights 23 = .ok (.ireturn, 1) := by decide +kernel
theorem dX2_passNight_0 : decode cX2_passNight 0 = .ok (.iconst 0, 1) := by decide +kernel
theorem dX2_passNight_1 : decode cX2_passNight 1 = .ok (.istore_n 1, 1) := by decide +kernel
theorem dX2_passNight_2 : decode cX2_passNight 2 = .ok (.iload_n 1, 1) := by decide +kernel
theorem dX2_passNight_3 : decode cX2_passNight 3 = .ok (.aload_n 0, 1) := by decide +kernel
theorem dX2_passNight_4 : decode cX2_passNight 4 = .ok (.getfield 16, 3) := by decide +kernel
theorem dX2_passNight_7 : decode cX2_passNight 7 = .ok (.if_icmp .ge 44, 3) := by decide +kernel
theorem dX2_passNight_10 : decode cX2_passNight 10 = .ok (.aload_n 0, 1) := by decide +kernel
theorem dX2_passNight_11 : decode cX2_passNight 11 = .ok (.iload_n 1, 1) := by decide +kernel
theorem dX2_passNight_12 : decode cX2_passNight 12 = .ok (.aload_n 0, 1) := by decide +kernel
theorem dX2_passNight_13 : decode cX2_passNight 13 = .ok (.invokevirtual 73, 3) := by decide +kernel
theorem dX2_passNight_16 : decode cX2_passNight 16 = .ok (.bipush 60, 2) := by decide +kernel
theorem dX2_passNight_18 : decode cX2_passNight 18 = .ok (.irem, 1) := by decide +kernel
theorem dX2_passNight_19 : decode cX2_passNight 19 = .ok (.invokevirtual 76, 3) := by decide +kernel
theorem dX2_passNight_22 : decode cX2_passNight 22 = .ok (.istore_n 2, 1) := by decide +kernel
theorem dX2_passNight_23 : decode cX2_passNight 23 = .ok (.aload_n 0, 1) := by decide +kernel
theorem dX2_passNight_24 : decode cX2_passNight 24 = .ok (.getfield 11, 3) := by decide +kernel
theorem dX2_passNight_27 : decode cX2_passNight 27 = .ok (.iconst 5, 1) := by decide +kernel
theorem dX2_passNight_28 : decode cX2_passNight 28 = .ok (.aaload, 1) := by decide +kernel
theorem dX2_passNight_29 : decode cX2_passNight 29 = .ok (.iload_n 1, 1) := by decide +kernel
theorem dX2_passNight_30 : decode cX2_passNight 30 = .ok (.iload_n 2, 1) := by decide +kernel
theorem dX2_passNight_31 : decode cX2_passNight 31 = .ok (.iastore, 1) := by decide +kernel
theorem dX2_passNight_32 : decode cX2_passNight 32 = .ok (.aload_n 0, 1) := by decide +kernel
theorem dX2_passNight_33 : decode cX2_passNight 33 = .ok (.getfield 11, 3) := by decide +kernel
theorem dX2_passNight_36 : decode cX2_passNight 36 = .ok (.bipush 7, 2) := by decide +kernel
theorem dX2_passNight_38 : decode cX2_passNight 38 = .ok (.aaload, 1) := by decide +kernel
theorem dX2_passNight_39 : decode cX2_passNight 39 = .ok (.iload_n 1, 1) := by decide +kernel
theorem dX2_passNight_40 : decode cX2_passNight 40 = .ok (.dup2, 1) := by decide +kernel
theorem dX2_passNight_41 : decode cX2_passNight 41 = .ok (.iaload, 1) := by decide +kernel
theorem dX2_passNight_42 : decode cX2_passNight 42 = .ok (.iload_n 2, 1) := by decide +kernel
theorem dX2_passNight_43 : decode cX2_passNight 43 = .ok (.iadd, 1) := by decide +kernel
theorem dX2_passNight_44 : decode cX2_passNight 44 = .ok (.iastore, 1) := by decide +kernel
theorem dX2_passNight_45 : decode cX2_passNight 45 = .ok (.iinc 1 1, 3) := by decide +kernel
theorem dX2_passNight_48 : decode cX2_passNight 48 = .ok (.goto (-46), 3) := by decide +kernel
theorem dX2_passNight_51 : decode cX2_passNight 51 = .ok (.iconst 0, 1) := by decide +kernel
theorem dX2_passNight_52 : decode cX2_passNight 52 = .ok (.istore_n 1, 1) := by decide +kernel
theorem dX2_passNight_53 : decode cX2_passNight 53 = .ok (.iconst 0, 1) := by decide +kernel
theorem dX2_passNight_54 : decode cX2_passNight 54 = .ok (.istore_n 2, 1) := by decide +kernel
theorem dX2_passNight_55 : decode cX2_passNight 55 = .ok (.iload_n 2, 1) := by decide +kernel
theorem dX2_passNight_56 : decode cX2_passNight 56 = .ok (.iconst 3, 1) := by decide +kernel
theorem dX2_passNight_57 : decode cX2_passNight 57 = .ok (.if_icmp .ge 32, 3) := by decide +kernel
theorem dX2_passNight_60 : decode cX2_passNight 60 = .ok (.aload_n 0, 1) := by decide +kernel
theorem dX2_passNight_61 : decode cX2_passNight 61 = .ok (.iload_n 2, 1) := by decide +kernel
theorem dX2_passNight_62 : decode cX2_passNight 62 = .ok (.invokevirtual 78, 3) := by decide +kernel
theorem dX2_passNight_65 : decode cX2_passNight 65 = .ok (.istore_n 3, 1) := by decide +kernel
theorem dX2_passNight_66 : decode cX2_passNight 66 = .ok (.iload_n 3, 1) := by decide +kernel
theorem dX2_passNight_67 : decode cX2_passNight 67 = .ok (.ifCond .le 16, 3) := by decide +kernel
theorem dX2_passNight_70 : decode cX2_passNight 70 = .ok (.iload_n 1, 1) := by decide +kernel
theorem dX2_passNight_71 : decode cX2_passNight 71 = .ok (.aload_n 0, 1) := by decide +kernel
theorem dX2_passNight_72 : decode cX2_passNight 72 = .ok (.iload_n 3, 1) := by decide +kernel
theorem dX2_passNight_73 : decode cX2_passNight 73 = .ok (.invokevirtual 82, 3) := by decide +kernel
theorem dX2_passNight_76 : decode cX2_passNight 76 = .ok (.iadd, 1) := by decide +kernel
theorem dX2_passNight_77 : decode cX2_passNight 77 = .ok (.istore_n 1, 1) := by decide +kernel
theorem dX2_passNight_78 : decode cX2_passNight 78 = .ok (.aload_n 0, 1) := by decide +kernel
theorem dX2_passNight_79 : decode cX2_passNight 79 = .ok (.iload_n 3, 1) := by decide +kernel
theorem dX2_passNight_80 : decode cX2_passNight 80 = .ok (.invokevirtual 85, 3) := by decide +kernel
theorem dX2_passNight_83 : decode cX2_passNight 83 = .ok (.iinc 2 1, 3) := by decide +kernel
theorem dX2_passNight_86 : decode cX2_passNight 86 = .ok (.goto (-31), 3) := by decide +kernel
theorem dX2_passNight_89 : decode cX2_passNight 89 = .ok (.aload_n 0, 1) := by decide +kernel
theorem dX2_passNight_90 : decode cX2_passNight 90 = .ok (.dup, 1) := by decide +kernel
theorem dX2_passNight_91 : decode cX2_passNight 91 = .ok (.getfield 26, 3) := by decide +kernel
theorem dX2_passNight_94 : decode cX2_passNight 94 = .ok (.iconst 1, 1) := by decide +kernel
theorem dX2_passNight_95 : decode cX2_passNight 95 = .ok (.iadd, 1) := by decide +kernel
theorem dX2_passNight_96 : decode cX2_passNight 96 = .ok (.putfield 26, 3) := by decide +kernel
theorem dX2_passNight_99 : decode cX2_passNight 99 = .ok (.iload_n 1, 1) := by decide +kernel
theorem dX2_passNight_100 : decode cX2_passNight 100 = .ok (.ireturn, 1) := by decide +kernel
theorem dX2_gather_0 : decode cX2_gather 0 = .ok (.iconst 0, 1) := by decide +kernel
theorem dX2_gather_1 : decode cX2_gather 1 = .ok (.istore_n 2, 1) := by decide +kernel
theorem dX2_gather_2 : decode cX2_gather 2 = .ok (.iconst 0, 1) := by decide +kernel
theorem dX2_gather_3 : decode cX2_gather 3 = .ok (.istore_n 3, 1) := by decide +kernel
theorem dX2_gather_4 : decode cX2_gather 4 = .ok (.iload_n 3, 1) := by decide +kernel
theorem dX2_gather_5 : decode cX2_gather 5 = .ok (.aload_n 0, 1) := by decide +kernel
theorem dX2_gather_6 : decode cX2_gather 6 = .ok (.getfield 16, 3) := by decide +kernel
theorem dX2_gather_9 : decode cX2_gather 9 = .ok (.if_icmp .ge 31, 3) := by decide +kernel
theorem dX2_gather_12 : decode cX2_gather 12 = .ok (.aload_n 0, 1) := by decide +kernel
theorem dX2_gather_13 : decode cX2_gather 13 = .ok (.getfield 11, 3) := by decide +kernel
theorem dX2_gather_16 : decode cX2_gather 16 = .ok (.iconst 1, 1) := by decide +kernel
theorem dX2_gather_17 : decode cX2_gather 17 = .ok (.aaload, 1) := by decide +kernel
theorem dX2_gather_18 : decode cX2_gather 18 = .ok (.iload_n 3, 1) := by decide +kernel
theorem dX2_gather_19 : decode cX2_gather 19 = .ok (.iaload, 1) := by decide +kernel
theorem dX2_gather_20 : decode cX2_gather 20 = .ok (.iload_n 1, 1) := by decide +kernel
theorem dX2_gather_21 : decode cX2_gather 21 = .ok (.if_icmp .ne 13, 3) := by decide +kernel
theorem dX2_gather_24 : decode cX2_gather 24 = .ok (.aload_n 0, 1) := by decide +kernel
theorem dX2_gather_25 : decode cX2_gather 25 = .ok (.getfield 39, 3) := by decide +kernel
theorem dX2_gather_28 : decode cX2_gather 28 = .ok (.iload_n 2, 1) := by decide +kernel
theorem dX2_gather_29 : decode cX2_gather 29 = .ok (.iload_n 3, 1) := by decide +kernel
theorem dX2_gather_30 : decode cX2_gather 30 = .ok (.iastore, 1) := by decide +kernel
theorem dX2_gather_31 : decode cX2_gather 31 = .ok (.iinc 2 1, 3) := by decide +kernel
theorem dX2_gather_34 : decode cX2_gather 34 = .ok (.iinc 3 1, 3) := by decide +kernel
theorem dX2_gather_37 : decode cX2_gather 37 = .ok (.goto (-33), 3) := by decide +kernel
theorem dX2_gather_40 : decode cX2_gather 40 = .ok (.iload_n 2, 1) := by decide +kernel
theorem dX2_gather_41 : decode cX2_gather 41 = .ok (.ireturn, 1) := by decide +kernel
theorem dX2_settle_0 : decode cX2_settle 0 = .ok (.iconst 0, 1) := by decide +kernel
theorem dX2_settle_1 : decode cX2_settle 1 = .ok (.istore_n 2, 1) := by decide +kernel
theorem dX2_settle_2 : decode cX2_settle 2 = .ok (.iconst 0, 1) := by decide +kernel
theorem dX2_settle_3 : decode cX2_settle 3 = .ok (.istore_n 3, 1) := by decide +kernel
theorem dX2_settle_4 : decode cX2_settle 4 = .ok (.iload_n 3, 1) := by decide +kernel
theorem dX2_settle_5 : decode cX2_settle 5 = .ok (.iload_n 1, 1) := by decide +kernel
theorem dX2_settle_6 : decode cX2_settle 6 = .ok (.if_icmp .ge 25, 3) := by decide +kernel
theorem dX2_settle_9 : decode cX2_settle 9 = .ok (.iload_n 2, 1) := by decide +kernel
theorem dX2_settle_10 : decode cX2_settle 10 = .ok (.aload_n 0, 1) := by decide +kernel
theorem dX2_settle_11 : decode cX2_settle 11 = .ok (.getfield 11, 3) := by decide +kernel
theorem dX2_settle_14 : decode cX2_settle 14 = .ok (.iconst 5, 1) := by decide +kernel
theorem dX2_settle_15 : decode cX2_settle 15 = .ok (.aaload, 1) := by decide +kernel
theorem dX2_settle_16 : decode cX2_settle 16 = .ok (.aload_n 0, 1) := by decide +kernel
theorem dX2_settle_17 : decode cX2_settle 17 = .ok (.getfield 39, 3) := by decide +kernel
theorem dX2_settle_20 : decode cX2_settle 20 = .ok (.iload_n 3, 1) := by decide +kernel
theorem dX2_settle_21 : decode cX2_settle 21 = .ok (.iaload, 1) := by decide +kernel
theorem dX2_settle_22 : decode cX2_settle 22 = .ok (.iaload, 1) := by decide +kernel
theorem dX2_settle_23 : decode cX2_settle 23 = .ok (.iadd, 1) := by decide +kernel
theorem dX2_settle_24 : decode cX2_settle 24 = .ok (.istore_n 2, 1) := by decide +kernel
theorem dX2_settle_25 : decode cX2_settle 25 = .ok (.iinc 3 1, 3) := by decide +kernel
theorem dX2_settle_28 : decode cX2_settle 28 = .ok (.goto (-24), 3) := by decide +kernel
theorem dX2_settle_31 : decode cX2_settle 31 = .ok (.aload_n 0, 1) := by decide +kernel
theorem dX2_settle_32 : decode cX2_settle 32 = .ok (.getfield 23, 3) := by decide +kernel
theorem dX2_settle_35 : decode cX2_settle 35 = .ok (.iload_n 2, 1) := by decide +kernel
theorem dX2_settle_36 : decode cX2_settle 36 = .ok (.imul, 1) := by decide +kernel
theorem dX2_settle_37 : decode cX2_settle 37 = .ok (.bipush 100, 2) := by decide +kernel
theorem dX2_settle_39 : decode cX2_settle 39 = .ok (.idiv, 1) := by decide +kernel
theorem dX2_settle_40 : decode cX2_settle 40 = .ok (.istore_n 3, 1) := by decide +kernel
theorem dX2_settle_41 : decode cX2_settle 41 = .ok (.aload_n 0, 1) := by decide +kernel
theorem dX2_settle_42 : decode cX2_settle 42 = .ok (.iload_n 1, 1) := by decide +kernel
theorem dX2_settle_43 : decode cX2_settle 43 = .ok (.invokevirtual 89, 3) := by decide +kernel
theorem dX2_settle_46 : decode cX2_settle 46 = .ok (.istore 4, 2) := by decide +kernel
theorem dX2_settle_48 : decode cX2_settle 48 = .ok (.aload_n 0, 1) := by decide +kernel
theorem dX2_settle_49 : decode cX2_settle 49 = .ok (.getfield 20, 3) := by decide +kernel
theorem dX2_settle_52 : decode cX2_settle 52 = .ok (.iconst 1, 1) := by decide +kernel
theorem dX2_settle_53 : decode cX2_settle 53 = .ok (.if_icmp .ne 13, 3) := by decide +kernel
theorem dX2_settle_56 : decode cX2_settle 56 = .ok (.iload_n 1, 1) := by decide +kernel
theorem dX2_settle_57 : decode cX2_settle 57 = .ok (.ifCond .le 9, 3) := by decide +kernel
theorem dX2_settle_60 : decode cX2_settle 60 = .ok (.iload_n 3, 1) := by decide +kernel
theorem dX2_settle_61 : decode cX2_settle 61 = .ok (.iload_n 1, 1) := by decide +kernel
theorem dX2_settle_62 : decode cX2_settle 62 = .ok (.idiv, 1) := by decide +kernel
theorem dX2_settle_63 : decode cX2_settle 63 = .ok (.goto 4, 3) := by decide +kernel
theorem dX2_settle_66 : decode cX2_settle 66 = .ok (.iconst 0, 1) := by decide +kernel
theorem dX2_settle_67 : decode cX2_settle 67 = .ok (.istore 5, 2) := by decide +kernel
theorem dX2_settle_69 : decode cX2_settle 69 = .ok (.iconst 0, 1) := by decide +kernel
theorem dX2_settle_70 : decode cX2_settle 70 = .ok (.istore 6, 2) := by decide +kernel
theorem dX2_settle_72 : decode cX2_settle 72 = .ok (.iload 6, 2) := by decide +kernel
theorem dX2_settle_74 : decode cX2_settle 74 = .ok (.iload_n 1, 1) := by decide +kernel
theorem dX2_settle_75 : decode cX2_settle 75 = .ok (.if_icmp .ge 120, 3) := by decide +kernel
theorem dX2_settle_78 : decode cX2_settle 78 = .ok (.aload_n 0, 1) := by decide +kernel
theorem dX2_settle_79 : decode cX2_settle 79 = .ok (.getfield 39, 3) := by decide +kernel
theorem dX2_settle_82 : decode cX2_settle 82 = .ok (.iload 6, 2) := by decide +kernel
theorem dX2_settle_84 : decode cX2_settle 84 = .ok (.iaload, 1) := by decide +kernel
theorem dX2_settle_85 : decode cX2_settle 85 = .ok (.istore 7, 2) := by decide +kernel
theorem dX2_settle_87 : decode cX2_settle 87 = .ok (.aload_n 0, 1) := by decide +kernel
theorem dX2_settle_88 : decode cX2_settle 88 = .ok (.getfield 11, 3) := by decide +kernel
theorem dX2_settle_91 : decode cX2_settle 91 = .ok (.bipush 6, 2) := by decide +kernel
theorem dX2_settle_93 : decode cX2_settle 93 = .ok (.aaload, 1) := by decide +kernel
theorem dX2_settle_94 : decode cX2_settle 94 = .ok (.iload 7, 2) := by decide +kernel
theorem dX2_settle_96 : decode cX2_settle 96 = .ok (.dup2, 1) := by decide +kernel
theorem dX2_settle_97 : decode cX2_settle 97 = .ok (.iaload, 1) := by decide +kernel
theorem dX2_settle_98 : decode cX2_settle 98 = .ok (.iload 7, 2) := by decide +kernel
theorem dX2_settle_100 : decode cX2_settle 100 = .ok (.iload 4, 2) := by decide +kernel
theorem dX2_settle_102 : decode cX2_settle 102 = .ok (.if_icmp .ne 14, 3) := by decide +kernel
theorem dX2_settle_105 : decode cX2_settle 105 = .ok (.iload_n 3, 1) := by decide +kernel
theorem dX2_settle_106 : decode cX2_settle 106 = .ok (.iload 5, 2) := by decide +kernel
theorem dX2_settle_108 : decode cX2_settle 108 = .ok (.iload_n 1, 1) := by decide +kernel
theorem dX2_settle_109 : decode cX2_settle 109 = .ok (.iconst 1, 1) := by decide +kernel
theorem dX2_settle_110 : decode cX2_settle 110 = .ok (.isub, 1) := by decide +kernel
theorem dX2_settle_111 : decode cX2_settle 111 = .ok (.imul, 1) := by decide +kernel
theorem dX2_settle_112 : decode cX2_settle 112 = .ok (.isub, 1) := by decide +kernel
theorem dX2_settle_113 : decode cX2_settle 113 = .ok (.goto 5, 3) := by decide +kernel
theorem dX2_settle_116 : decode cX2_settle 116 = .ok (.iload 5, 2) := by decide +kernel
theorem dX2_settle_118 : decode cX2_settle 118 = .ok (.isub, 1) := by decide +kernel
theorem dX2_settle_119 : decode cX2_settle 119 = .ok (.iastore, 1) := by decide +kernel
theorem dX2_settle_120 : decode cX2_settle 120 = .ok (.iload_n 3, 1) := by decide +kernel
theorem dX2_settle_121 : decode cX2_settle 121 = .ok (.ifCond .le 22, 3) := by decide +kernel
theorem dX2_settle_124 : decode cX2_settle 124 = .ok (.aload_n 0, 1) := by decide +kernel
theorem dX2_settle_125 : decode cX2_settle 125 = .ok (.getfield 20, 3) := by decide +kernel
theorem dX2_settle_128 : decode cX2_settle 128 = .ok (.iconst 1, 1) := by decide +kernel
theorem dX2_settle_129 : decode cX2_settle 129 = .ok (.if_icmp .eq 10, 3) := by decide +kernel
theorem dX2_settle_132 : decode cX2_settle 132 = .ok (.iload 7, 2) := by decide +kernel
theorem dX2_settle_134 : decode cX2_settle 134 = .ok (.iload 4, 2) := by decide +kernel
theorem dX2_settle_136 : decode cX2_settle 136 = .ok (.if_icmp .ne 7, 3) := by decide +kernel
theorem dX2_settle_139 : decode cX2_settle 139 = .ok (.iconst 1, 1) := by decide +kernel
theorem dX2_settle_140 : decode cX2_settle 140 = .ok (.goto 4, 3) := by decide +kernel
theorem dX2_settle_143 : decode cX2_settle 143 = .ok (.iconst 0, 1) := by decide +kernel
theorem dX2_settle_144 : decode cX2_settle 144 = .ok (.istore 8, 2) := by decide +kernel
theorem dX2_settle_146 : decode cX2_settle 146 = .ok (.aload_n 0, 1) := by decide +kernel
theorem dX2_settle_147 : decode cX2_settle 147 = .ok (.getfield 11, 3) := by decide +kernel
theorem dX2_settle_150 : decode cX2_settle 150 = .ok (.iconst 0, 1) := by decide +kernel
theorem dX2_settle_151 : decode cX2_settle 151 = .ok (.aaload, 1) := by decide +kernel
theorem dX2_settle_152 : decode cX2_settle 152 = .ok (.iload 7, 2) := by decide +kernel
theorem dX2_settle_154 : decode cX2_settle 154 = .ok (.iaload, 1) := by decide +kernel
theorem dX2_settle_155 : decode cX2_settle 155 = .ok (.iload 8, 2) := by decide +kernel
theorem dX2_settle_157 : decode cX2_settle 157 = .ok (.invokestatic 92, 3) := by decide +kernel
theorem dX2_settle_160 : decode cX2_settle 160 = .ok (.istore 9, 2) := by decide +kernel
theorem dX2_settle_162 : decode cX2_settle 162 = .ok (.aload_n 0, 1) := by decide +kernel
theorem dX2_settle_163 : decode cX2_settle 163 = .ok (.getfield 11, 3) := by decide +kernel
theorem dX2_settle_166 : decode cX2_settle 166 = .ok (.iconst 4, 1) := by decide +kernel
theorem dX2_settle_167 : decode cX2_settle 167 = .ok (.aaload, 1) := by decide +kernel
theorem dX2_settle_168 : decode cX2_settle 168 = .ok (.iload 7, 2) := by decide +kernel
theorem dX2_settle_170 : decode cX2_settle 170 = .ok (.aload_n 0, 1) := by decide +kernel
theorem dX2_settle_171 : decode cX2_settle 171 = .ok (.getfield 11, 3) := by decide +kernel
theorem dX2_settle_174 : decode cX2_settle 174 = .ok (.iconst 4, 1) := by decide +kernel
theorem dX2_settle_175 : decode cX2_settle 175 = .ok (.aaload, 1) := by decide +kernel
theorem dX2_settle_176 : decode cX2_settle 176 = .ok (.iload 7, 2) := by decide +kernel
theorem dX2_settle_178 : decode cX2_settle 178 = .ok (.iaload, 1) := by decide +kernel
theorem dX2_settle_179 : decode cX2_settle 179 = .ok (.iload 9, 2) := by decide +kernel
theorem dX2_settle_181 : decode cX2_settle 181 = .ok (.iadd, 1) := by decide +kernel
theorem dX2_settle_182 : decode cX2_settle 182 = .ok (.sipush 300, 3) := by decide +kernel
theorem dX2_settle_185 : decode cX2_settle 185 = .ok (.invokestatic 59, 3) := by decide +kernel
theorem dX2_settle_188 : decode cX2_settle 188 = .ok (.iastore, 1) := by decide +kernel
theorem dX2_settle_189 : decode cX2_settle 189 = .ok (.iinc 6 1, 3) := by decide +kernel
theorem dX2_settle_192 : decode cX2_settle 192 = .ok (.goto (-120), 3) := by decide +kernel
theorem dX2_settle_195 : decode cX2_settle 195 = .ok (.iload_n 3, 1) := by decide +kernel
theorem dX2_settle_196 : decode cX2_settle 196 = .ok (.ireturn, 1) := by decide +kernel
theorem dX2_payer_0 : decode cX2_payer 0 = .ok (.aload_n 0, 1) := by decide +kernel
theorem dX2_payer_1 : decode cX2_payer 1 = .ok (.getfield 20, 3) := by decide +kernel
theorem dX2_payer_4 : decode cX2_payer 4 = .ok (.iconst 3, 1) := by decide +kernel
theorem dX2_payer_5 : decode cX2_payer 5 = .ok (.if_icmp .ne 19, 3) := by decide +kernel
theorem dX2_payer_8 : decode cX2_payer 8 = .ok (.iload_n 1, 1) := by decide +kernel
theorem dX2_payer_9 : decode cX2_payer 9 = .ok (.ifCond .le 15, 3) := by decide +kernel
theorem dX2_payer_12 : decode cX2_payer 12 = .ok (.aload_n 0, 1) := by decide +kernel
theorem dX2_payer_13 : decode cX2_payer 13 = .ok (.getfield 39, 3) := by decide +kernel
theorem dX2_payer_16 : decode cX2_payer 16 = .ok (.aload_n 0, 1) := by decide +kernel
theorem dX2_payer_17 : decode cX2_payer 17 = .ok (.invokevirtual 73, 3) := by decide +kernel
theorem dX2_payer_20 : decode cX2_payer 20 = .ok (.iload_n 1, 1) := by decide +kernel
theorem dX2_payer_21 : decode cX2_payer 21 = .ok (.irem, 1) := by decide +kernel
theorem dX2_payer_22 : decode cX2_payer 22 = .ok (.iaload, 1) := by decide +kernel
theorem dX2_payer_23 : decode cX2_payer 23 = .ok (.ireturn, 1) := by decide +kernel
theorem dX2_payer_24 : decode cX2_payer 24 = .ok (.aload_n 0, 1) := by decide +kernel
theorem dX2_payer_25 : decode cX2_payer 25 = .ok (.iload_n 1, 1) := by decide +kernel
theorem dX2_payer_26 : decode cX2_payer 26 = .ok (.iconst (-1), 1) := by decide +kernel
theorem dX2_payer_27 : decode cX2_payer 27 = .ok (.invokevirtual 96, 3) := by decide +kernel
theorem dX2_payer_30 : decode cX2_payer 30 = .ok (.istore_n 2, 1) := by decide +kernel
theorem dX2_payer_31 : decode cX2_payer 31 = .ok (.aload_n 0, 1) := by decide +kernel
theorem dX2_payer_32 : decode cX2_payer 32 = .ok (.getfield 20, 3) := by decide +kernel
theorem dX2_payer_35 : decode cX2_payer 35 = .ok (.iconst 2, 1) := by decide +kernel
theorem dX2_payer_36 : decode cX2_payer 36 = .ok (.if_icmp .ne 17, 3) := by decide +kernel
theorem dX2_payer_39 : decode cX2_payer 39 = .ok (.iload_n 1, 1) := by decide +kernel
theorem dX2_payer_40 : decode cX2_payer 40 = .ok (.iconst 1, 1) := by decide +kernel
theorem dX2_payer_41 : decode cX2_payer 41 = .ok (.if_icmp .le 12, 3) := by decide +kernel
theorem dX2_payer_44 : decode cX2_payer 44 = .ok (.aload_n 0, 1) := by decide +kernel
theorem dX2_payer_45 : decode cX2_payer 45 = .ok (.iload_n 1, 1) := by decide +kernel
theorem dX2_payer_46 : decode cX2_payer 46 = .ok (.iload_n 2, 1) := by decide +kernel
theorem dX2_payer_47 : decode cX2_payer 47 = .ok (.invokevirtual 96, 3) := by decide +kernel
theorem dX2_payer_50 : decode cX2_payer 50 = .ok (.goto 4, 3) := by decide +kernel
theorem dX2_payer_53 : decode cX2_payer 53 = .ok (.iload_n 2, 1) := by decide +kernel
theorem dX2_payer_54 : decode cX2_payer 54 = .ok (.ireturn, 1) := by decide +kernel
theorem dX2_lastBut_0 : decode cX2_lastBut 0 = .ok (.iconst (-1), 1) := by decide +kernel
theorem dX2_lastBut_1 : decode cX2_lastBut 1 = .ok (.istore_n 3, 1) := by decide +kernel
theorem dX2_lastBut_2 : decode cX2_lastBut 2 = .ok (.iconst 0, 1) := by decide +kernel
theorem dX2_lastBut_3 : decode cX2_lastBut 3 = .ok (.istore 4, 2) := by decide +kernel
theorem dX2_lastBut_5 : decode cX2_lastBut 5 = .ok (.iconst 0, 1) := by decide +kernel
theorem dX2_lastBut_6 : decode cX2_lastBut 6 = .ok (.istore 5, 2) := by decide +kernel
theorem dX2_lastBut_8 : decode cX2_lastBut 8 = .ok (.iload 5, 2) := by decide +kernel
theorem dX2_lastBut_10 : decode cX2_lastBut 10 = .ok (.iload_n 1, 1) := by decide +kernel
theorem dX2_lastBut_11 : decode cX2_lastBut 11 = .ok (.if_icmp .ge 63, 3) := by decide +kernel
theorem dX2_lastBut_14 : decode cX2_lastBut 14 = .ok (.aload_n 0, 1) := by decide +kernel
theorem dX2_lastBut_15 : decode cX2_lastBut 15 = .ok (.getfield 39, 3) := by decide +kernel
theorem dX2_lastBut_18 : decode cX2_lastBut 18 = .ok (.iload 5, 2) := by decide +kernel
theorem dX2_lastBut_20 : decode cX2_lastBut 20 = .ok (.iaload, 1) := by decide +kernel
theorem dX2_lastBut_21 : decode cX2_lastBut 21 = .ok (.istore 6, 2) := by decide +kernel
theorem dX2_lastBut_23 : decode cX2_lastBut 23 = .ok (.aload_n 0, 1) := by decide +kernel
theorem dX2_lastBut_24 : decode cX2_lastBut 24 = .ok (.getfield 11, 3) := by decide +kernel
theorem dX2_lastBut_27 : decode cX2_lastBut 27 = .ok (.iconst 5, 1) := by decide +kernel
theorem dX2_lastBut_28 : decode cX2_lastBut 28 = .ok (.aaload, 1) := by decide +kernel
theorem dX2_lastBut_29 : decode cX2_lastBut 29 = .ok (.iload 6, 2) := by decide +kernel
theorem dX2_lastBut_31 : decode cX2_lastBut 31 = .ok (.iaload, 1) := by decide +kernel
theorem dX2_lastBut_32 : decode cX2_lastBut 32 = .ok (.aload_n 0, 1) := by decide +kernel
theorem dX2_lastBut_33 : decode cX2_lastBut 33 = .ok (.getfield 11, 3) := by decide +kernel
theorem dX2_lastBut_36 : decode cX2_lastBut 36 = .ok (.iconst 3, 1) := by decide +kernel
theorem dX2_lastBut_37 : decode cX2_lastBut 37 = .ok (.aaload, 1) := by decide +kernel
theorem dX2_lastBut_38 : decode cX2_lastBut 38 = .ok (.iload 6, 2) := by decide +kernel
theorem dX2_lastBut_40 : decode cX2_lastBut 40 = .ok (.iaload, 1) := by decide +kernel
theorem dX2_lastBut_41 : decode cX2_lastBut 41 = .ok (.iadd, 1) := by decide +kernel
theorem dX2_lastBut_42 : decode cX2_lastBut 42 = .ok (.istore 7, 2) := by decide +kernel
theorem dX2_lastBut_44 : decode cX2_lastBut 44 = .ok (.iload 6, 2) := by decide +kernel
theorem dX2_lastBut_46 : decode cX2_lastBut 46 = .ok (.iload_n 2, 1) := by decide +kernel
theorem dX2_lastBut_47 : decode cX2_lastBut 47 = .ok (.if_icmp .eq 21, 3) := by decide +kernel
theorem dX2_lastBut_50 : decode cX2_lastBut 50 = .ok (.iload_n 3, 1) := by decide +kernel
theorem dX2_lastBut_51 : decode cX2_lastBut 51 = .ok (.ifCond .lt 10, 3) := by decide +kernel
theorem dX2_lastBut_54 : decode cX2_lastBut 54 = .ok (.iload 7, 2) := by decide +kernel
theorem dX2_lastBut_56 : decode cX2_lastBut 56 = .ok (.iload 4, 2) := by decide +kernel
theorem dX2_lastBut_58 : decode cX2_lastBut 58 = .ok (.if_icmp .lt 10, 3) := by decide +kernel
theorem dX2_lastBut_61 : decode cX2_lastBut 61 = .ok (.iload 6, 2) := by decide +kernel
theorem dX2_lastBut_63 : decode cX2_lastBut 63 = .ok (.istore_n 3, 1) := by decide +kernel
theorem dX2_lastBut_64 : decode cX2_lastBut 64 = .ok (.iload 7, 2) := by decide +kernel
theorem dX2_lastBut_66 : decode cX2_lastBut 66 = .ok (.istore 4, 2) := by decide +kernel
theorem dX2_lastBut_68 : decode cX2_lastBut 68 = .ok (.iinc 5 1, 3) := by decide +kernel
theorem dX2_lastBut_71 : decode cX2_lastBut 71 = .ok (.goto (-63), 3) := by decide +kernel
theorem dX2_lastBut_74 : decode cX2_lastBut 74 = .ok (.iload_n 3, 1) := by decide +kernel
theorem dX2_lastBut_75 : decode cX2_lastBut 75 = .ok (.ireturn, 1) := by decide +kernel
theorem dX2_lookThroughChinks_0 : decode cX2_lookThroughChinks 0 = .ok (.iconst 0, 1) := by decide +kernel
theorem dX2_lookThroughChinks_1 : decode cX2_lookThroughChinks 1 = .ok (.istore_n 2, 1) := by decide +kernel
theorem dX2_lookThroughChinks_2 : decode cX2_lookThroughChinks 2 = .ok (.iload_n 2, 1) := by decide +kernel
theorem dX2_lookThroughChinks_3 : decode cX2_lookThroughChinks 3 = .ok (.iload_n 1, 1) := by decide +kernel
theorem dX2_lookThroughChinks_4 : decode cX2_lookThroughChinks 4 = .ok (.if_icmp .ge 76, 3) := by decide +kernel
theorem dX2_lookThroughChinks_7 : decode cX2_lookThroughChinks 7 = .ok (.aload_n 0, 1) := by decide +kernel
theorem dX2_lookThroughChinks_8 : decode cX2_lookThroughChinks 8 = .ok (.getfield 39, 3) := by decide +kernel
theorem dX2_lookThroughChinks_11 : decode cX2_lookThroughChinks 11 = .ok (.iload_n 2, 1) := by decide +kernel
theorem dX2_lookThroughChinks_12 : decode cX2_lookThroughChinks 12 = .ok (.iconst 1, 1) := by decide +kernel
theorem dX2_lookThroughChinks_13 : decode cX2_lookThroughChinks 13 = .ok (.iadd, 1) := by decide +kernel
theorem dX2_lookThroughChinks_14 : decode cX2_lookThroughChinks 14 = .ok (.iload_n 1, 1) := by decide +kernel
theorem dX2_lookThroughChinks_15 : decode cX2_lookThroughChinks 15 = .ok (.if_icmp .ge 9, 3) := by decide +kernel
theorem dX2_lookThroughChinks_18 : decode cX2_lookThroughChinks 18 = .ok (.iload_n 2, 1) := by decide +kernel
theorem dX2_lookThroughChinks_19 : decode cX2_lookThroughChinks 19 = .ok (.iconst 1, 1) := by decide +kernel
theorem dX2_lookThroughChinks_20 : decode cX2_lookThroughChinks 20 = .ok (.iadd, 1) := by decide +kernel
theorem dX2_lookThroughChinks_21 : decode cX2_lookThroughChinks 21 = .ok (.goto 4, 3) := by decide +kernel
theorem dX2_lookThroughChinks_24 : decode cX2_lookThroughChinks 24 = .ok (.iconst 0, 1) := by decide +kernel
theorem dX2_lookThroughChinks_25 : decode cX2_lookThroughChinks 25 = .ok (.iaload, 1) := by decide +kernel
theorem dX2_lookThroughChinks_26 : decode cX2_lookThroughChinks 26 = .ok (.istore_n 3, 1) := by decide +kernel
theorem dX2_lookThroughChinks_27 : decode cX2_lookThroughChinks 27 = .ok (.aload_n 0, 1) := by decide +kernel
theorem dX2_lookThroughChinks_28 : decode cX2_lookThroughChinks 28 = .ok (.getfield 11, 3) := by decide +kernel
theorem dX2_lookThroughChinks_31 : decode cX2_lookThroughChinks 31 = .ok (.iconst 5, 1) := by decide +kernel
theorem dX2_lookThroughChinks_32 : decode cX2_lookThroughChinks 32 = .ok (.aaload, 1) := by decide +kernel
theorem dX2_lookThroughChinks_33 : decode cX2_lookThroughChinks 33 = .ok (.iload_n 3, 1) := by decide +kernel
theorem dX2_lookThroughChinks_34 : decode cX2_lookThroughChinks 34 = .ok (.iaload, 1) := by decide +kernel
theorem dX2_lookThroughChinks_35 : decode cX2_lookThroughChinks 35 = .ok (.aload_n 0, 1) := by decide +kernel
theorem dX2_lookThroughChinks_36 : decode cX2_lookThroughChinks 36 = .ok (.getfield 11, 3) := by decide +kernel
theorem dX2_lookThroughChinks_39 : decode cX2_lookThroughChinks 39 = .ok (.iconst 5, 1) := by decide +kernel
theorem dX2_lookThroughChinks_40 : decode cX2_lookThroughChinks 40 = .ok (.aaload, 1) := by decide +kernel
theorem dX2_lookThroughChinks_41 : decode cX2_lookThroughChinks 41 = .ok (.aload_n 0, 1) := by decide +kernel
theorem dX2_lookThroughChinks_42 : decode cX2_lookThroughChinks 42 = .ok (.getfield 39, 3) := by decide +kernel
theorem dX2_lookThroughChinks_45 : decode cX2_lookThroughChinks 45 = .ok (.iload_n 2, 1) := by decide +kernel
theorem dX2_lookThroughChinks_46 : decode cX2_lookThroughChinks 46 = .ok (.iaload, 1) := by decide +kernel
theorem dX2_lookThroughChinks_47 : decode cX2_lookThroughChinks 47 = .ok (.iaload, 1) := by decide +kernel
theorem dX2_lookThroughChinks_48 : decode cX2_lookThroughChinks 48 = .ok (.isub, 1) := by decide +kernel
theorem dX2_lookThroughChinks_49 : decode cX2_lookThroughChinks 49 = .ok (.istore 4, 2) := by decide +kernel
theorem dX2_lookThroughChinks_51 : decode cX2_lookThroughChinks 51 = .ok (.aload_n 0, 1) := by decide +kernel
theorem dX2_lookThroughChinks_52 : decode cX2_lookThroughChinks 52 = .ok (.getfield 11, 3) := by decide +kernel
theorem dX2_lookThroughChinks_55 : decode cX2_lookThroughChinks 55 = .ok (.bipush 8, 2) := by decide +kernel
theorem dX2_lookThroughChinks_57 : decode cX2_lookThroughChinks 57 = .ok (.aaload, 1) := by decide +kernel
theorem dX2_lookThroughChinks_58 : decode cX2_lookThroughChinks 58 = .ok (.aload_n 0, 1) := by decide +kernel
theorem dX2_lookThroughChinks_59 : decode cX2_lookThroughChinks 59 = .ok (.getfield 39, 3) := by decide +kernel
theorem dX2_lookThroughChinks_62 : decode cX2_lookThroughChinks 62 = .ok (.iload_n 2, 1) := by decide +kernel
theorem dX2_lookThroughChinks_63 : decode cX2_lookThroughChinks 63 = .ok (.iaload, 1) := by decide +kernel
theorem dX2_lookThroughChinks_64 : decode cX2_lookThroughChinks 64 = .ok (.dup2, 1) := by decide +kernel
theorem dX2_lookThroughChinks_65 : decode cX2_lookThroughChinks 65 = .ok (.iaload, 1) := by decide +kernel
theorem dX2_lookThroughChinks_66 : decode cX2_lookThroughChinks 66 = .ok (.iconst 0, 1) := by decide +kernel
theorem dX2_lookThroughChinks_67 : decode cX2_lookThroughChinks 67 = .ok (.iload 4, 2) := by decide +kernel
theorem dX2_lookThroughChinks_69 : decode cX2_lookThroughChinks 69 = .ok (.invokestatic 99, 3) := by decide +kernel
theorem dX2_lookThroughChinks_72 : decode cX2_lookThroughChinks 72 = .ok (.iadd, 1) := by decide +kernel
theorem dX2_lookThroughChinks_73 : decode cX2_lookThroughChinks 73 = .ok (.iastore, 1) := by decide +kernel
theorem dX2_lookThroughChinks_74 : decode cX2_lookThroughChinks 74 = .ok (.iinc 2 1, 3) := by decide +kernel
theorem dX2_lookThroughChinks_77 : decode cX2_lookThroughChinks 77 = .ok (.goto (-75), 3) := by decide +kernel
theorem dX2_lookThroughChinks_80 : decode cX2_lookThroughChinks 80 = .ok (.return_, 1) := by decide +kernel
theorem dX3_isOf_0 : decode cX3_isOf 0 = .ok (.iload_n 0, 1) := by decide +kernel
theorem dX3_isOf_1 : decode cX3_isOf 1 = .ok (.istore_n 2, 1) := by decide +kernel
theorem dX3_isOf_2 : decode cX3_isOf 2 = .ok (.iconst 0, 1) := by decide +kernel
theorem dX3_isOf_3 : decode cX3_isOf 3 = .ok (.istore_n 3, 1) := by decide +kernel
theorem dX3_isOf_4 : decode cX3_isOf 4 = .ok (.iload_n 3, 1) := by decide +kernel
theorem dX3_isOf_5 : decode cX3_isOf 5 = .ok (.getstatic 9, 3) := by decide +kernel
theorem dX3_isOf_8 : decode cX3_isOf 8 = .ok (.arraylength, 1) := by decide +kernel
theorem dX3_isOf_9 : decode cX3_isOf 9 = .ok (.if_icmp .ge 34, 3) := by decide +kernel
theorem dX3_isOf_12 : decode cX3_isOf 12 = .ok (.iload_n 2, 1) := by decide +kernel
theorem dX3_isOf_13 : decode cX3_isOf 13 = .ok (.ifCond .lt 30, 3) := by decide +kernel
theorem dX3_isOf_16 : decode cX3_isOf 16 = .ok (.iload_n 2, 1) := by decide +kernel
theorem dX3_isOf_17 : decode cX3_isOf 17 = .ok (.getstatic 9, 3) := by decide +kernel
theorem dX3_isOf_20 : decode cX3_isOf 20 = .ok (.arraylength, 1) := by decide +kernel
theorem dX3_isOf_21 : decode cX3_isOf 21 = .ok (.if_icmp .ge 22, 3) := by decide +kernel
theorem dX3_isOf_24 : decode cX3_isOf 24 = .ok (.iload_n 2, 1) := by decide +kernel
theorem dX3_isOf_25 : decode cX3_isOf 25 = .ok (.iload_n 1, 1) := by decide +kernel
theorem dX3_isOf_26 : decode cX3_isOf 26 = .ok (.if_icmp .ne 5, 3) := by decide +kernel
theorem dX3_isOf_29 : decode cX3_isOf 29 = .ok (.iconst 1, 1) := by decide +kernel
theorem dX3_isOf_30 : decode cX3_isOf 30 = .ok (.ireturn, 1) := by decide +kernel
theorem dX3_isOf_31 : decode cX3_isOf 31 = .ok (.getstatic 9, 3) := by decide +kernel
theorem dX3_isOf_34 : decode cX3_isOf 34 = .ok (.iload_n 2, 1) := by decide +kernel
theorem dX3_isOf_35 : decode cX3_isOf 35 = .ok (.iaload, 1) := by decide +kernel
theorem dX3_isOf_36 : decode cX3_isOf 36 = .ok (.istore_n 2, 1) := by decide +kernel
theorem dX3_isOf_37 : decode cX3_isOf 37 = .ok (.iinc 3 1, 3) := by decide +kernel
theorem dX3_isOf_40 : decode cX3_isOf 40 = .ok (.goto (-36), 3) := by decide +kernel
theorem dX3_isOf_43 : decode cX3_isOf 43 = .ok (.iconst 0, 1) := by decide +kernel
theorem dX3_isOf_44 : decode cX3_isOf 44 = .ok (.ireturn, 1) := by decide +kernel
theorem dX3_burnsTill_0 : decode cX3_burnsTill 0 = .ok (.iload_n 0, 1) := by decide +kernel
theorem dX3_burnsTill_1 : decode cX3_burnsTill 1 = .ok (.tableswitch 87 1 5 #[35, 65, 46, 69, 85], 35) := by decide +kernel
theorem dX3_burnsTill_36 : decode cX3_burnsTill 36 = .ok (.sipush 599, 3) := by decide +kernel
theorem dX3_burnsTill_39 : decode cX3_burnsTill 39 = .ok (.iload_n 1, 1) := by decide +kernel
theorem dX3_burnsTill_40 : decode cX3_burnsTill 40 = .ok (.bipush 60, 2) := by decide +kernel
theorem dX3_burnsTill_42 : decode cX3_burnsTill 42 = .ok (.iadd, 1) := by decide +kernel
theorem dX3_burnsTill_43 : decode cX3_burnsTill 43 = .ok (.invokestatic 15, 3) := by decide +kernel
theorem dX3_burnsTill_46 : decode cX3_burnsTill 46 = .ok (.ireturn, 1) := by decide +kernel
theorem dX3_burnsTill_47 : decode cX3_burnsTill 47 = .ok (.iload_n 2, 1) := by decide +kernel
theorem dX3_burnsTill_48 : decode cX3_burnsTill 48 = .ok (.bipush 50, 2) := by decide +kernel
theorem dX3_burnsTill_50 : decode cX3_burnsTill 50 = .ok (.if_icmp .le 9, 3) := by decide +kernel
theorem dX3_burnsTill_53 : decode cX3_burnsTill 53 = .ok (.sipush 599, 3) := by decide +kernel
theorem dX3_burnsTill_56 : decode cX3_burnsTill 56 = .ok (.goto 9, 3) := by decide +kernel
theorem dX3_burnsTill_59 : decode cX3_burnsTill 59 = .ok (.iconst 1, 1) := by decide +kernel
theorem dX3_burnsTill_60 : decode cX3_burnsTill 60 = .ok (.iload_n 1, 1) := by decide +kernel
theorem dX3_burnsTill_61 : decode cX3_burnsTill 61 = .ok (.iload_n 2, 1) := by decide +kernel
theorem dX3_burnsTill_62 : decode cX3_burnsTill 62 = .ok (.invokestatic 21, 3) := by decide +kernel
theorem dX3_burnsTill_65 : decode cX3_burnsTill 65 = .ok (.ireturn, 1) := by decide +kernel
theorem dX3_burnsTill_66 : decode cX3_burnsTill 66 = .ok (.iload_n 1, 1) := by decide +kernel
theorem dX3_burnsTill_67 : decode cX3_burnsTill 67 = .ok (.iconst 2, 1) := by decide +kernel
theorem dX3_burnsTill_68 : decode cX3_burnsTill 68 = .ok (.idiv, 1) := by decide +kernel
theorem dX3_burnsTill_69 : decode cX3_burnsTill 69 = .ok (.ireturn, 1) := by decide +kernel
theorem dX3_burnsTill_70 : decode cX3_burnsTill 70 = .ok (.sipush 599, 3) := by decide +kernel
theorem dX3_burnsTill_73 : decode cX3_burnsTill 73 = .ok (.iconst 2, 1) := by decide +kernel
theorem dX3_burnsTill_74 : decode cX3_burnsTill 74 = .ok (.iload_n 1, 1) := by decide +kernel
theorem dX3_burnsTill_75 : decode cX3_burnsTill 75 = .ok (.iload_n 2, 1) := by decide +kernel
theorem dX3_burnsTill_76 : decode cX3_burnsTill 76 = .ok (.invokestatic 21, 3) := by decide +kernel
theorem dX3_burnsTill_79 : decode cX3_burnsTill 79 = .ok (.bipush 30, 2) := by decide +kernel
theorem dX3_burnsTill_81 : decode cX3_burnsTill 81 = .ok (.iadd, 1) := by decide +kernel
theorem dX3_burnsTill_82 : decode cX3_burnsTill 82 = .ok (.invokestatic 15, 3) := by decide +kernel
theorem dX3_burnsTill_85 : decode cX3_burnsTill 85 = .ok (.ireturn, 1) := by decide +kernel
theorem dX3_burnsTill_86 : decode cX3_burnsTill 86 = .ok (.iconst 0, 1) := by decide +kernel
theorem dX3_burnsTill_87 : decode cX3_burnsTill 87 = .ok (.ireturn, 1) := by decide +kernel
theorem dX3_burnsTill_88 : decode cX3_burnsTill 88 = .ok (.iload_n 1, 1) := by decide +kernel
theorem dX3_burnsTill_89 : decode cX3_burnsTill 89 = .ok (.ireturn, 1) := by decide +kernel
theorem dX3_learns_0 : decode cX3_learns 0 = .ok (.iload_n 0, 1) := by decide +kernel
theorem dX3_learns_1 : decode cX3_learns 1 = .ok (.tableswitch 73 1 4 #[31, 73, 45, 59], 31) := by decide +kernel
theorem dX3_learns_32 : decode cX3_learns 32 = .ok (.iload_n 1, 1) := by decide +kernel
theorem dX3_learns_33 : decode cX3_learns 33 = .ok (.ifCond .eq 7, 3) := by decide +kernel
theorem dX3_learns_36 : decode cX3_learns 36 = .ok (.iconst 5, 1) := by decide +kernel
theorem dX3_learns_37 : decode cX3_learns 37 = .ok (.goto 8, 3) := by decide +kernel
theorem dX3_learns_40 : decode cX3_learns 40 = .ok (.iconst 0, 1) := by decide +kernel
theorem dX3_learns_41 : decode cX3_learns 41 = .ok (.iconst 0, 1) := by decide +kernel
theorem dX3_learns_42 : decode cX3_learns 42 = .ok (.invokestatic 25, 3) := by decide +kernel
theorem dX3_learns_45 : decode cX3_learns 45 = .ok (.ireturn, 1) := by decide +kernel
theorem dX3_learns_46 : decode cX3_learns 46 = .ok (.iload_n 1, 1) := by decide +kernel
theorem dX3_learns_47 : decode cX3_learns 47 = .ok (.ifCond .eq 11, 3) := by decide +kernel
theorem dX3_learns_50 : decode cX3_learns 50 = .ok (.iconst 1, 1) := by decide +kernel
theorem dX3_learns_51 : decode cX3_learns 51 = .ok (.iconst 1, 1) := by decide +kernel
theorem dX3_learns_52 : decode cX3_learns 52 = .ok (.invokestatic 25, 3) := by decide +kernel
theorem dX3_learns_55 : decode cX3_learns 55 = .ok (.goto 4, 3) := by decide +kernel
theorem dX3_learns_58 : decode cX3_learns 58 = .ok (.iconst (-1), 1) := by decide +kernel
theorem dX3_learns_59 : decode cX3_learns 59 = .ok (.ireturn, 1) := by decide +kernel
theorem dX3_learns_60 : decode cX3_learns 60 = .ok (.iload_n 1, 1) := by decide +kernel
theorem dX3_learns_61 : decode cX3_learns 61 = .ok (.ifCond .eq 7, 3) := by decide +kernel
theorem dX3_learns_64 : decode cX3_learns 64 = .ok (.iconst 0, 1) := by decide +kernel
theorem dX3_learns_65 : decode cX3_learns 65 = .ok (.goto 8, 3) := by decide +kernel
theorem dX3_learns_68 : decode cX3_learns 68 = .ok (.iconst 2, 1) := by decide +kernel
theorem dX3_learns_69 : decode cX3_learns 69 = .ok (.iconst 0, 1) := by decide +kernel
theorem dX3_learns_70 : decode cX3_learns 70 = .ok (.invokestatic 25, 3) := by decide +kernel
theorem dX3_learns_73 : decode cX3_learns 73 = .ok (.ireturn, 1) := by decide +kernel
theorem dX3_learns_74 : decode cX3_learns 74 = .ok (.iload_n 1, 1) := by decide +kernel
theorem dX3_learns_75 : decode cX3_learns 75 = .ok (.ifCond .eq 8, 3) := by decide +kernel
theorem dX3_learns_78 : decode cX3_learns 78 = .ok (.bipush 20, 2) := by decide +kernel
theorem dX3_learns_80 : decode cX3_learns 80 = .ok (.goto 5, 3) := by decide +kernel
theorem dX3_learns_83 : decode cX3_learns 83 = .ok (.bipush (-4), 2) := by decide +kernel
theorem dX3_learns_85 : decode cX3_learns 85 = .ok (.ireturn, 1) := by decide +kernel
theorem dX3_worth_0 : decode cX3_worth 0 = .ok (.iload_n 0, 1) := by decide +kernel
theorem dX3_worth_1 : decode cX3_worth 1 = .ok (.tableswitch 70 1 5 #[35, 51, 43, 59, 68], 35) := by decide +kernel
theorem dX3_worth_36 : decode cX3_worth 36 = .ok (.iconst 0, 1) := by decide +kernel
theorem dX3_worth_37 : decode cX3_worth 37 = .ok (.iload_n 1, 1) := by decide +kernel
theorem dX3_worth_38 : decode cX3_worth 38 = .ok (.invokestatic 29, 3) := by decide +kernel
theorem dX3_worth_41 : decode cX3_worth 41 = .ok (.iconst 5, 1) := by decide +kernel
theorem dX3_worth_42 : decode cX3_worth 42 = .ok (.iadd, 1) := by decide +kernel
theorem dX3_worth_43 : decode cX3_worth 43 = .ok (.ireturn, 1) := by decide +kernel
theorem dX3_worth_44 : decode cX3_worth 44 = .ok (.iconst 2, 1) := by decide +kernel
theorem dX3_worth_45 : decode cX3_worth 45 = .ok (.iconst 1, 1) := by decide +kernel
theorem dX3_worth_46 : decode cX3_worth 46 = .ok (.iload_n 1, 1) := by decide +kernel
theorem dX3_worth_47 : decode cX3_worth 47 = .ok (.invokestatic 29, 3) := by decide +kernel
theorem dX3_worth_50 : decode cX3_worth 50 = .ok (.imul, 1) := by decide +kernel
theorem dX3_worth_51 : decode cX3_worth 51 = .ok (.ireturn, 1) := by decide +kernel
theorem dX3_worth_52 : decode cX3_worth 52 = .ok (.bipush 99, 2) := by decide +kernel
theorem dX3_worth_54 : decode cX3_worth 54 = .ok (.iload_n 1, 1) := by decide +kernel
theorem dX3_worth_55 : decode cX3_worth 55 = .ok (.bipush 10, 2) := by decide +kernel
theorem dX3_worth_57 : decode cX3_worth 57 = .ok (.idiv, 1) := by decide +kernel
theorem dX3_worth_58 : decode cX3_worth 58 = .ok (.isub, 1) := by decide +kernel
theorem dX3_worth_59 : decode cX3_worth 59 = .ok (.ireturn, 1) := by decide +kernel
theorem dX3_worth_60 : decode cX3_worth 60 = .ok (.iconst 2, 1) := by decide +kernel
theorem dX3_worth_61 : decode cX3_worth 61 = .ok (.iload_n 1, 1) := by decide +kernel
theorem dX3_worth_62 : decode cX3_worth 62 = .ok (.invokestatic 29, 3) := by decide +kernel
theorem dX3_worth_65 : decode cX3_worth 65 = .ok (.bipush 9, 2) := by decide +kernel
theorem dX3_worth_67 : decode cX3_worth 67 = .ok (.isub, 1) := by decide +kernel
theorem dX3_worth_68 : decode cX3_worth 68 = .ok (.ireturn, 1) := by decide +kernel
theorem dX3_worth_69 : decode cX3_worth 69 = .ok (.iconst 1, 1) := by decide +kernel
theorem dX3_worth_70 : decode cX3_worth 70 = .ok (.ireturn, 1) := by decide +kernel
theorem dX3_worth_71 : decode cX3_worth 71 = .ok (.iload_n 1, 1) := by decide +kernel
theorem dX3_worth_72 : decode cX3_worth 72 = .ok (.bipush 10, 2) := by decide +kernel
theorem dX3_worth_74 : decode cX3_worth 74 = .ok (.idiv, 1) := by decide +kernel
theorem dX3_worth_75 : decode cX3_worth 75 = .ok (.ireturn, 1) := by decide +kernel
theorem dX4_init_0 : decode cX4_init 0 = .ok (.aload_n 0, 1) := by decide +kernel
theorem dX4_init_1 : decode cX4_init 1 = .ok (.invokespecial 3, 3) := by decide +kernel
theorem dX4_init_4 : decode cX4_init 4 = .ok (.aload_n 0, 1) := by decide +kernel
theorem dX4_init_5 : decode cX4_init 5 = .ok (.iconst 0, 1) := by decide +kernel
theorem dX4_init_6 : decode cX4_init 6 = .ok (.putfield 9, 3) := by decide +kernel
theorem dX4_init_9 : decode cX4_init 9 = .ok (.aload_n 0, 1) := by decide +kernel
theorem dX4_init_10 : decode cX4_init 10 = .ok (.iconst 0, 1) := by decide +kernel
theorem dX4_init_11 : decode cX4_init 11 = .ok (.putfield 15, 3) := by decide +kernel
theorem dX4_init_14 : decode cX4_init 14 = .ok (.aload_n 0, 1) := by decide +kernel
theorem dX4_init_15 : decode cX4_init 15 = .ok (.iconst 0, 1) := by decide +kernel
theorem dX4_init_16 : decode cX4_init 16 = .ok (.putfield 18, 3) := by decide +kernel
theorem dX4_init_19 : decode cX4_init 19 = .ok (.aload_n 0, 1) := by decide +kernel
theorem dX4_init_20 : decode cX4_init 20 = .ok (.iconst 0, 1) := by decide +kernel
theorem dX4_init_21 : decode cX4_init 21 = .ok (.putfield 21, 3) := by decide +kernel
theorem dX4_init_24 : decode cX4_init 24 = .ok (.aload_n 0, 1) := by decide +kernel
theorem dX4_init_25 : decode cX4_init 25 = .ok (.iconst (-1), 1) := by decide +kernel
theorem dX4_init_26 : decode cX4_init 26 = .ok (.putfield 24, 3) := by decide +kernel
theorem dX4_init_29 : decode cX4_init 29 = .ok (.aload_n 0, 1) := by decide +kernel
theorem dX4_init_30 : decode cX4_init 30 = .ok (.iconst 0, 1) := by decide +kernel
theorem dX4_init_31 : decode cX4_init 31 = .ok (.putfield 27, 3) := by decide +kernel
theorem dX4_init_34 : decode cX4_init 34 = .ok (.aload_n 0, 1) := by decide +kernel
theorem dX4_init_35 : decode cX4_init 35 = .ok (.ldc 30, 2) := by decide +kernel
theorem dX4_init_37 : decode cX4_init 37 = .ok (.putfield 32, 3) := by decide +kernel
theorem dX4_init_40 : decode cX4_init 40 = .ok (.aload_n 0, 1) := by decide +kernel
theorem dX4_init_41 : decode cX4_init 41 = .ok (.bipush 96, 2) := by decide +kernel
theorem dX4_init_43 : decode cX4_init 43 = .ok (.newarray .int, 2) := by decide +kernel
theorem dX4_init_45 : decode cX4_init 45 = .ok (.putfield 36, 3) := by decide +kernel
theorem dX4_init_48 : decode cX4_init 48 = .ok (.aload_n 0, 1) := by decide +kernel
theorem dX4_init_49 : decode cX4_init 49 = .ok (.iconst 0, 1) := by decide +kernel
theorem dX4_init_50 : decode cX4_init 50 = .ok (.putfield 40, 3) := by decide +kernel
theorem dX4_init_53 : decode cX4_init 53 = .ok (.aload_n 0, 1) := by decide +kernel
theorem dX4_init_54 : decode cX4_init 54 = .ok (.iconst 0, 1) := by decide +kernel
theorem dX4_init_55 : decode cX4_init 55 = .ok (.putfield 43, 3) := by decide +kernel
theorem dX4_init_58 : decode cX4_init 58 = .ok (.aload_n 0, 1) := by decide +kernel
theorem dX4_init_59 : decode cX4_init 59 = .ok (.aload_n 1, 1) := by decide +kernel
theorem dX4_init_60 : decode cX4_init 60 = .ok (.putfield 46, 3) := by decide +kernel
theorem dX4_init_63 : decode cX4_init 63 = .ok (.return_, 1) := by decide +kernel
theorem dX4_faultOf_0 : decode cX4_faultOf 0 = .ok (.aload_n 0, 1) := by decide +kernel
theorem dX4_faultOf_1 : decode cX4_faultOf 1 = .ok (.iload_n 1, 1) := by decide +kernel
theorem dX4_faultOf_2 : decode cX4_faultOf 2 = .ok (.aload_n 0, 1) := by decide +kernel
theorem dX4_faultOf_3 : decode cX4_faultOf 3 = .ok (.getfield 46, 3) := by decide +kernel
theorem dX4_faultOf_6 : decode cX4_faultOf 6 = .ok (.arraylength, 1) := by decide +kernel
theorem dX4_faultOf_7 : decode cX4_faultOf 7 = .ok (.invokestatic 49, 3) := by decide +kernel
theorem dX4_faultOf_10 : decode cX4_faultOf 10 = .ok (.putfield 9, 3) := by decide +kernel
theorem dX4_faultOf_13 : decode cX4_faultOf 13 = .ok (.aload_n 0, 1) := by decide +kernel
theorem dX4_faultOf_14 : decode cX4_faultOf 14 = .ok (.iconst 0, 1) := by decide +kernel
theorem dX4_faultOf_15 : decode cX4_faultOf 15 = .ok (.putfield 21, 3) := by decide +kernel
theorem dX4_faultOf_18 : decode cX4_faultOf 18 = .ok (.aload_n 0, 1) := by decide +kernel
theorem dX4_faultOf_19 : decode cX4_faultOf 19 = .ok (.iconst 0, 1) := by decide +kernel
theorem dX4_faultOf_20 : decode cX4_faultOf 20 = .ok (.putfield 15, 3) := by decide +kernel
theorem dX4_faultOf_23 : decode cX4_faultOf 23 = .ok (.aload_n 0, 1) := by decide +kernel
theorem dX4_faultOf_24 : decode cX4_faultOf 24 = .ok (.iconst (-1), 1) := by decide +kernel
theorem dX4_faultOf_25 : decode cX4_faultOf 25 = .ok (.putfield 24, 3) := by decide +kernel
theorem dX4_faultOf_28 : decode cX4_faultOf 28 = .ok (.aload_n 0, 1) := by decide +kernel
theorem dX4_faultOf_29 : decode cX4_faultOf 29 = .ok (.iconst 0, 1) := by decide +kernel
theorem dX4_faultOf_30 : decode cX4_faultOf 30 = .ok (.putfield 40, 3) := by decide +kernel
theorem dX4_faultOf_33 : decode cX4_faultOf 33 = .ok (.aload_n 0, 1) := by decide +kernel
theorem dX4_faultOf_34 : decode cX4_faultOf 34 = .ok (.iconst 0, 1) := by decide +kernel
theorem dX4_faultOf_35 : decode cX4_faultOf 35 = .ok (.putfield 43, 3) := by decide +kernel
theorem dX4_faultOf_38 : decode cX4_faultOf 38 = .ok (.aload_n 0, 1) := by decide +kernel
theorem dX4_faultOf_39 : decode cX4_faultOf 39 = .ok (.invokevirtual 55, 3) := by decide +kernel
theorem dX4_faultOf_42 : decode cX4_faultOf 42 = .ok (.aload_n 0, 1) := by decide +kernel
theorem dX4_faultOf_43 : decode cX4_faultOf 43 = .ok (.invokevirtual 58, 3) := by decide +kernel
theorem dX4_faultOf_46 : decode cX4_faultOf 46 = .ok (.aload_n 0, 1) := by decide +kernel
theorem dX4_faultOf_47 : decode cX4_faultOf 47 = .ok (.getfield 24, 3) := by decide +kernel
theorem dX4_faultOf_50 : decode cX4_faultOf 50 = .ok (.ifCond .ge 10, 3) := by decide +kernel
theorem dX4_faultOf_53 : decode cX4_faultOf 53 = .ok (.aload_n 0, 1) := by decide +kernel
theorem dX4_faultOf_54 : decode cX4_faultOf 54 = .ok (.iconst 0, 1) := by decide +kernel
theorem dX4_faultOf_55 : decode cX4_faultOf 55 = .ok (.iconst 0, 1) := by decide +kernel
theorem dX4_faultOf_56 : decode cX4_faultOf 56 = .ok (.iconst 0, 1) := by decide +kernel
theorem dX4_faultOf_57 : decode cX4_faultOf 57 = .ok (.invokevirtual 61, 3) := by decide +kernel
theorem dX4_faultOf_60 : decode cX4_faultOf 60 = .ok (.aload_n 0, 1) := by decide +kernel
theorem dX4_faultOf_61 : decode cX4_faultOf 61 = .ok (.getfield 24, 3) := by decide +kernel
theorem dX4_faultOf_64 : decode cX4_faultOf 64 = .ok (.ifCond .ge 14, 3) := by decide +kernel
theorem dX4_faultOf_67 : decode cX4_faultOf 67 = .ok (.aload_n 0, 1) := by decide +kernel
theorem dX4_faultOf_68 : decode cX4_faultOf 68 = .ok (.getfield 15, 3) := by decide +kernel
theorem dX4_faultOf_71 : decode cX4_faultOf 71 = .ok (.ifCond .eq 7, 3) := by decide +kernel
theorem dX4_faultOf_74 : decode cX4_faultOf 74 = .ok (.aload_n 0, 1) := by decide +kernel
theorem dX4_faultOf_75 : decode cX4_faultOf 75 = .ok (.invokevirtual 65, 3) := by decide +kernel
theorem dX4_faultOf_78 : decode cX4_faultOf 78 = .ok (.aload_n 0, 1) := by decide +kernel
theorem dX4_faultOf_79 : decode cX4_faultOf 79 = .ok (.getfield 24, 3) := by decide +kernel
theorem dX4_faultOf_82 : decode cX4_faultOf 82 = .ok (.ireturn, 1) := by decide +kernel
theorem dX4_readKey_0 : decode cX4_readKey 0 = .ok (.aload_n 0, 1) := by decide +kernel
theorem dX4_readKey_1 : decode cX4_readKey 1 = .ok (.ldc 68, 2) := by decide +kernel
theorem dX4_readKey_3 : decode cX4_readKey 3 = .ok (.invokevirtual 70, 3) := by decide +kernel
theorem dX4_readKey_6 : decode cX4_readKey 6 = .ok (.ifCond .eq 17, 3) := by decide +kernel
theorem dX4_readKey_9 : decode cX4_readKey 9 = .ok (.aload_n 0, 1) := by decide +kernel
theorem dX4_readKey_10 : decode cX4_readKey 10 = .ok (.iconst 0, 1) := by decide +kernel
theorem dX4_readKey_11 : decode cX4_readKey 11 = .ok (.putfield 27, 3) := by decide +kernel
theorem dX4_readKey_14 : decode cX4_readKey 14 = .ok (.aload_n 0, 1) := by decide +kernel
theorem dX4_readKey_15 : decode cX4_readKey 15 = .ok (.ldc 74, 2) := by decide +kernel
theorem dX4_readKey_17 : decode cX4_readKey 17 = .ok (.putfield 32, 3) := by decide +kernel
theorem dX4_readKey_20 : decode cX4_readKey 20 = .ok (.goto 54, 3) := by decide +kernel
theorem dX4_readKey_23 : decode cX4_readKey 23 = .ok (.aload_n 0, 1) := by decide +kernel
theorem dX4_readKey_24 : decode cX4_readKey 24 = .ok (.ldc 76, 2) := by decide +kernel
theorem dX4_readKey_26 : decode cX4_readKey 26 = .ok (.invokevirtual 70, 3) := by decide +kernel
theorem dX4_readKey_29 : decode cX4_readKey 29 = .ok (.ifCond .eq 17, 3) := by decide +kernel
theorem dX4_readKey_32 : decode cX4_readKey 32 = .ok (.aload_n 0, 1) := by decide +kernel
theorem dX4_readKey_33 : decode cX4_readKey 33 = .ok (.iconst 1, 1) := by decide +kernel
theorem dX4_readKey_34 : decode cX4_readKey 34 = .ok (.putfield 27, 3) := by decide +kernel
theorem dX4_readKey_37 : decode cX4_readKey 37 = .ok (.aload_n 0, 1) := by decide +kernel
theorem dX4_readKey_38 : decode cX4_readKey 38 = .ok (.ldc 78, 2) := by decide +kernel
theorem dX4_readKey_40 : decode cX4_readKey 40 = .ok (.putfield 32, 3) := by decide +kernel
theorem dX4_readKey_43 : decode cX4_readKey 43 = .ok (.goto 31, 3) := by decide +kernel
theorem dX4_readKey_46 : decode cX4_readKey 46 = .ok (.aload_n 0, 1) := by decide +kernel
theorem dX4_readKey_47 : decode cX4_readKey 47 = .ok (.ldc 80, 2) := by decide +kernel
theorem dX4_readKey_49 : decode cX4_readKey 49 = .ok (.invokevirtual 70, 3) := by decide +kernel
theorem dX4_readKey_52 : decode cX4_readKey 52 = .ok (.ifCond .eq 17, 3) := by decide +kernel
theorem dX4_readKey_55 : decode cX4_readKey 55 = .ok (.aload_n 0, 1) := by decide +kernel
theorem dX4_readKey_56 : decode cX4_readKey 56 = .ok (.iconst 2, 1) := by decide +kernel
theorem dX4_readKey_57 : decode cX4_readKey 57 = .ok (.putfield 27, 3) := by decide +kernel
theorem dX4_readKey_60 : decode cX4_readKey 60 = .ok (.aload_n 0, 1) := by decide +kernel
theorem dX4_readKey_61 : decode cX4_readKey 61 = .ok (.ldc 82, 2) := by decide +kernel
theorem dX4_readKey_63 : decode cX4_readKey 63 = .ok (.putfield 32, 3) := by decide +kernel
theorem dX4_readKey_66 : decode cX4_readKey 66 = .ok (.goto 8, 3) := by decide +kernel
theorem dX4_readKey_69 : decode cX4_readKey 69 = .ok (.aload_n 0, 1) := by decide +kernel
theorem dX4_readKey_70 : decode cX4_readKey 70 = .ok (.invokevirtual 65, 3) := by decide +kernel
theorem dX4_readKey_73 : decode cX4_readKey 73 = .ok (.return_, 1) := by decide +kernel
theorem dX4_readKey_74 : decode cX4_readKey 74 = .ok (.aload_n 0, 1) := by decide +kernel
theorem dX4_readKey_75 : decode cX4_readKey 75 = .ok (.invokevirtual 55, 3) := by decide +kernel
theorem dX4_readKey_78 : decode cX4_readKey 78 = .ok (.return_, 1) := by decide +kernel
theorem dX4_readLevel_0 : decode cX4_readLevel 0 = .ok (.iload_n 1, 1) := by decide +kernel
theorem dX4_readLevel_1 : decode cX4_readLevel 1 = .ok (.iconst 5, 1) := by decide +kernel
theorem dX4_readLevel_2 : decode cX4_readLevel 2 = .ok (.if_icmp .lt 10, 3) := by decide +kernel
theorem dX4_readLevel_5 : decode cX4_readLevel 5 = .ok (.aload_n 0, 1) := by decide +kernel
theorem dX4_readLevel_6 : decode cX4_readLevel 6 = .ok (.iload_n 2, 1) := by decide +kernel
theorem dX4_readLevel_7 : decode cX4_readLevel 7 = .ok (.iload_n 3, 1) := by decide +kernel
theorem dX4_readLevel_8 : decode cX4_readLevel 8 = .ok (.invokevirtual 84, 3) := by decide +kernel
theorem dX4_readLevel_11 : decode cX4_readLevel 11 = .ok (.return_, 1) := by decide +kernel
theorem dX4_readLevel_12 : decode cX4_readLevel 12 = .ok (.aload_n 0, 1) := by decide +kernel
theorem dX4_readLevel_13 : decode cX4_readLevel 13 = .ok (.iload_n 1, 1) := by decide +kernel
theorem dX4_readLevel_14 : decode cX4_readLevel 14 = .ok (.iconst 1, 1) := by decide +kernel
theorem dX4_readLevel_15 : decode cX4_readLevel 15 = .ok (.iadd, 1) := by decide +kernel
theorem dX4_readLevel_16 : decode cX4_readLevel 16 = .ok (.iload_n 2, 1) := by decide +kernel
theorem dX4_readLevel_17 : decode cX4_readLevel 17 = .ok (.iload_n 3, 1) := by decide +kernel
theorem dX4_readLevel_18 : decode cX4_readLevel 18 = .ok (.invokevirtual 61, 3) := by decide +kernel
theorem dX4_readLevel_21 : decode cX4_readLevel 21 = .ok (.iload_n 1, 1) := by decide +kernel
theorem dX4_readLevel_22 : decode cX4_readLevel 22 = .ok (.iconst 2, 1) := by decide +kernel
theorem dX4_readLevel_23 : decode cX4_readLevel 23 = .ok (.if_icmp .ne 7, 3) := by decide +kernel
theorem dX4_readLevel_26 : decode cX4_readLevel 26 = .ok (.iconst 1, 1) := by decide +kernel
theorem dX4_readLevel_27 : decode cX4_readLevel 27 = .ok (.goto 5, 3) := by decide +kernel
theorem dX4_readLevel_30 : decode cX4_readLevel 30 = .ok (.bipush 96, 2) := by decide +kernel
theorem dX4_readLevel_32 : decode cX4_readLevel 32 = .ok (.istore 4, 2) := by decide +kernel
theorem dX4_readLevel_34 : decode cX4_readLevel 34 = .ok (.iconst 0, 1) := by decide +kernel
theorem dX4_readLevel_35 : decode cX4_readLevel 35 = .ok (.istore 5, 2) := by decide +kernel
theorem dX4_readLevel_37 : decode cX4_readLevel 37 = .ok (.iload 5, 2) := by decide +kernel
theorem dX4_readLevel_39 : decode cX4_readLevel 39 = .ok (.iload 4, 2) := by decide +kernel
theorem dX4_readLevel_41 : decode cX4_readLevel 41 = .ok (.if_icmp .ge 61, 3) := by decide +kernel
theorem dX4_readLevel_44 : decode cX4_readLevel 44 = .ok (.aload_n 0, 1) := by decide +kernel
theorem dX4_readLevel_45 : decode cX4_readLevel 45 = .ok (.getfield 24, 3) := by decide +kernel
theorem dX4_readLevel_48 : decode cX4_readLevel 48 = .ok (.ifCond .ge 54, 3) := by decide +kernel
theorem dX4_readLevel_51 : decode cX4_readLevel 51 = .ok (.aload_n 0, 1) := by decide +kernel
theorem dX4_readLevel_52 : decode cX4_readLevel 52 = .ok (.iload_n 1, 1) := by decide +kernel
theorem dX4_readLevel_53 : decode cX4_readLevel 53 = .ok (.invokestatic 88, 3) := by decide +kernel
theorem dX4_readLevel_56 : decode cX4_readLevel 56 = .ok (.invokevirtual 92, 3) := by decide +kernel
theorem dX4_readLevel_59 : decode cX4_readLevel 59 = .ok (.ifCond .eq 43, 3) := by decide +kernel
theorem dX4_readLevel_62 : decode cX4_readLevel 62 = .ok (.aload_n 0, 1) := by decide +kernel
theorem dX4_readLevel_63 : decode cX4_readLevel 63 = .ok (.getfield 46, 3) := by decide +kernel
theorem dX4_readLevel_66 : decode cX4_readLevel 66 = .ok (.aload_n 0, 1) := by decide +kernel
theorem dX4_readLevel_67 : decode cX4_readLevel 67 = .ok (.getfield 18, 3) := by decide +kernel
theorem dX4_readLevel_70 : decode cX4_readLevel 70 = .ok (.iaload, 1) := by decide +kernel
theorem dX4_readLevel_71 : decode cX4_readLevel 71 = .ok (.istore 6, 2) := by decide +kernel
theorem dX4_readLevel_73 : decode cX4_readLevel 73 = .ok (.aload_n 0, 1) := by decide +kernel
theorem dX4_readLevel_74 : decode cX4_readLevel 74 = .ok (.invokevirtual 55, 3) := by decide +kernel
theorem dX4_readLevel_77 : decode cX4_readLevel 77 = .ok (.aload_n 0, 1) := by decide +kernel
theorem dX4_readLevel_78 : decode cX4_readLevel 78 = .ok (.iload_n 1, 1) := by decide +kernel
theorem dX4_readLevel_79 : decode cX4_readLevel 79 = .ok (.iconst 1, 1) := by decide +kernel
theorem dX4_readLevel_80 : decode cX4_readLevel 80 = .ok (.iadd, 1) := by decide +kernel
theorem dX4_readLevel_81 : decode cX4_readLevel 81 = .ok (.iload_n 2, 1) := by decide +kernel
theorem dX4_readLevel_82 : decode cX4_readLevel 82 = .ok (.iload_n 3, 1) := by decide +kernel
theorem dX4_readLevel_83 : decode cX4_readLevel 83 = .ok (.invokevirtual 61, 3) := by decide +kernel
theorem dX4_readLevel_86 : decode cX4_readLevel 86 = .ok (.aload_n 0, 1) := by decide +kernel
theorem dX4_readLevel_87 : decode cX4_readLevel 87 = .ok (.sipush 20000, 3) := by decide +kernel
theorem dX4_readLevel_90 : decode cX4_readLevel 90 = .ok (.iload 6, 2) := by decide +kernel
theorem dX4_readLevel_92 : decode cX4_readLevel 92 = .ok (.iadd, 1) := by decide +kernel
theorem dX4_readLevel_93 : decode cX4_readLevel 93 = .ok (.invokevirtual 97, 3) := by decide +kernel
theorem dX4_readLevel_96 : decode cX4_readLevel 96 = .ok (.iinc 5 1, 3) := by decide +kernel
theorem dX4_readLevel_99 : decode cX4_readLevel 99 = .ok (.goto (-62), 3) := by decide +kernel
theorem dX4_readLevel_102 : decode cX4_readLevel 102 = .ok (.return_, 1) := by decide +kernel
theorem dX4_signsOf_0 : decode cX4_signsOf 0 = .ok (.iload_n 0, 1) := by decide +kernel
theorem dX4_signsOf_1 : decode cX4_signsOf 1 = .ok (.tableswitch 43 0 3 #[31, 34, 37, 40], 31) := by decide +kernel
theorem dX4_signsOf_32 : decode cX4_signsOf 32 = .ok (.ldc 101, 2) := by decide +kernel
theorem dX4_signsOf_34 : decode cX4_signsOf 34 = .ok (.areturn, 1) := by decide +kernel
theorem dX4_signsOf_35 : decode cX4_signsOf 35 = .ok (.ldc 103, 2) := by decide +kernel
theorem dX4_signsOf_37 : decode cX4_signsOf 37 = .ok (.areturn, 1) := by decide +kernel
theorem dX4_signsOf_38 : decode cX4_signsOf 38 = .ok (.ldc 105, 2) := by decide +kernel
theorem dX4_signsOf_40 : decode cX4_signsOf 40 = .ok (.areturn, 1) := by decide +kernel
theorem dX4_signsOf_41 : decode cX4_signsOf 41 = .ok (.ldc 107, 2) := by decide +kernel
theorem dX4_signsOf_43 : decode cX4_signsOf 43 = .ok (.areturn, 1) := by decide +kernel
theorem dX4_signsOf_44 : decode cX4_signsOf 44 = .ok (.ldc 109, 2) := by decide +kernel
theorem dX4_signsOf_46 : decode cX4_signsOf 46 = .ok (.areturn, 1) := by decide +kernel
theorem dX4_readPiece_0 : decode cX4_readPiece 0 = .ok (.aload_n 0, 1) := by decide +kernel
theorem dX4_readPiece_1 : decode cX4_readPiece 1 = .ok (.getfield 15, 3) := by decide +kernel
theorem dX4_readPiece_4 : decode cX4_readPiece 4 = .ok (.iconst 2, 1) := by decide +kernel
theorem dX4_readPiece_5 : decode cX4_readPiece 5 = .ok (.if_icmp .ne 27, 3) := by decide +kernel
theorem dX4_readPiece_8 : decode cX4_readPiece 8 = .ok (.aload_n 0, 1) := by decide +kernel
theorem dX4_readPiece_9 : decode cX4_readPiece 9 = .ok (.getfield 21, 3) := by decide +kernel
theorem dX4_readPiece_12 : decode cX4_readPiece 12 = .ok (.aload_n 0, 1) := by decide +kernel
theorem dX4_readPiece_13 : decode cX4_readPiece 13 = .ok (.getfield 18, 3) := by decide +kernel
theorem dX4_readPiece_16 : decode cX4_readPiece 16 = .ok (.isub, 1) := by decide +kernel
theorem dX4_readPiece_17 : decode cX4_readPiece 17 = .ok (.iconst 4, 1) := by decide +kernel
theorem dX4_readPiece_18 : decode cX4_readPiece 18 = .ok (.if_icmp .gt 14, 3) := by decide +kernel
theorem dX4_readPiece_21 : decode cX4_readPiece 21 = .ok (.aload_n 0, 1) := by decide +kernel
theorem dX4_readPiece_22 : decode cX4_readPiece 22 = .ok (.aload_n 0, 1) := by decide +kernel
theorem dX4_readPiece_23 : decode cX4_readPiece 23 = .ok (.invokevirtual 111, 3) := by decide +kernel
theorem dX4_readPiece_26 : decode cX4_readPiece 26 = .ok (.invokevirtual 115, 3) := by decide +kernel
theorem dX4_readPiece_29 : decode cX4_readPiece 29 = .ok (.goto 148, 3) := by decide +kernel
theorem dX4_readPiece_32 : decode cX4_readPiece 32 = .ok (.aload_n 0, 1) := by decide +kernel
theorem dX4_readPiece_33 : decode cX4_readPiece 33 = .ok (.getfield 15, 3) := by decide +kernel
theorem dX4_readPiece_36 : decode cX4_readPiece 36 = .ok (.iconst 1, 1) := by decide +kernel
theorem dX4_readPiece_37 : decode cX4_readPiece 37 = .ok (.if_icmp .ne 64, 3) := by decide +kernel
theorem dX4_readPiece_40 : decode cX4_readPiece 40 = .ok (.aload_n 0, 1) := by decide +kernel
theorem dX4_readPiece_41 : decode cX4_readPiece 41 = .ok (.getfield 21, 3) := by decide +kernel
theorem dX4_readPiece_44 : decode cX4_readPiece 44 = .ok (.aload_n 0, 1) := by decide +kernel
theorem dX4_readPiece_45 : decode cX4_readPiece 45 = .ok (.getfield 18, 3) := by decide +kernel
theorem dX4_readPiece_48 : decode cX4_readPiece 48 = .ok (.isub, 1) := by decide +kernel
theorem dX4_readPiece_49 : decode cX4_readPiece 49 = .ok (.iconst 1, 1) := by decide +kernel
theorem dX4_readPiece_50 : decode cX4_readPiece 50 = .ok (.if_icmp .ne 51, 3) := by decide +kernel
theorem dX4_readPiece_53 : decode cX4_readPiece 53 = .ok (.aload_n 0, 1) := by decide +kernel
theorem dX4_readPiece_54 : decode cX4_readPiece 54 = .ok (.getfield 32, 3) := by decide +kernel
theorem dX4_readPiece_57 : decode cX4_readPiece 57 = .ok (.aload_n 0, 1) := by decide +kernel
theorem dX4_readPiece_58 : decode cX4_readPiece 58 = .ok (.getfield 46, 3) := by decide +kernel
theorem dX4_readPiece_61 : decode cX4_readPiece 61 = .ok (.aload_n 0, 1) := by decide +kernel
theorem dX4_readPiece_62 : decode cX4_readPiece 62 = .ok (.getfield 18, 3) := by decide +kernel
theorem dX4_readPiece_65 : decode cX4_readPiece 65 = .ok (.iaload, 1) := by decide +kernel
theorem dX4_readPiece_66 : decode cX4_readPiece 66 = .ok (.i2c, 1) := by decide +kernel
theorem dX4_readPiece_67 : decode cX4_readPiece 67 = .ok (.invokevirtual 118, 3) := by decide +kernel
theorem dX4_readPiece_70 : decode cX4_readPiece 70 = .ok (.ifCond .lt 31, 3) := by decide +kernel
theorem dX4_readPiece_73 : decode cX4_readPiece 73 = .ok (.aload_n 0, 1) := by decide +kernel
theorem dX4_readPiece_74 : decode cX4_readPiece 74 = .ok (.sipush 10000, 3) := by decide +kernel
theorem dX4_readPiece_77 : decode cX4_readPiece 77 = .ok (.aload_n 0, 1) := by decide +kernel
theorem dX4_readPiece_78 : decode cX4_readPiece 78 = .ok (.getfield 32, 3) := by decide +kernel
theorem dX4_readPiece_81 : decode cX4_readPiece 81 = .ok (.aload_n 0, 1) := by decide +kernel
theorem dX4_readPiece_82 : decode cX4_readPiece 82 = .ok (.getfield 46, 3) := by decide +kernel
theorem dX4_readPiece_85 : decode cX4_readPiece 85 = .ok (.aload_n 0, 1) := by decide +kernel
theorem dX4_readPiece_86 : decode cX4_readPiece 86 = .ok (.getfield 18, 3) := by decide +kernel
theorem dX4_readPiece_89 : decode cX4_readPiece 89 = .ok (.iaload, 1) := by decide +kernel
theorem dX4_readPiece_90 : decode cX4_readPiece 90 = .ok (.i2c, 1) := by decide +kernel
theorem dX4_readPiece_91 : decode cX4_readPiece 91 = .ok (.invokevirtual 118, 3) := by decide +kernel
theorem dX4_readPiece_94 : decode cX4_readPiece 94 = .ok (.iadd, 1) := by decide +kernel
theorem dX4_readPiece_95 : decode cX4_readPiece 95 = .ok (.invokevirtual 115, 3) := by decide +kernel
theorem dX4_readPiece_98 : decode cX4_readPiece 98 = .ok (.goto 79, 3) := by decide +kernel
theorem dX4_readPiece_101 : decode cX4_readPiece 101 = .ok (.aload_n 0, 1) := by decide +kernel
theorem dX4_readPiece_102 : decode cX4_readPiece 102 = .ok (.ldc 124, 2) := by decide +kernel
theorem dX4_readPiece_104 : decode cX4_readPiece 104 = .ok (.invokevirtual 92, 3) := by decide +kernel
theorem dX4_readPiece_107 : decode cX4_readPiece 107 = .ok (.ifCond .eq 31, 3) := by decide +kernel
theorem dX4_readPiece_110 : decode cX4_readPiece 110 = .ok (.iload_n 2, 1) := by decide +kernel
theorem dX4_readPiece_111 : decode cX4_readPiece 111 = .ok (.bipush 8, 2) := by decide +kernel
theorem dX4_readPiece_113 : decode cX4_readPiece 113 = .ok (.if_icmp .ge 25, 3) := by decide +kernel
theorem dX4_readPiece_116 : decode cX4_readPiece 116 = .ok (.aload_n 0, 1) := by decide +kernel
theorem dX4_readPiece_117 : decode cX4_readPiece 117 = .ok (.invokevirtual 55, 3) := by decide +kernel
theorem dX4_readPiece_120 : decode cX4_readPiece 120 = .ok (.aload_n 0, 1) := by decide +kernel
theorem dX4_readPiece_121 : decode cX4_readPiece 121 = .ok (.iload_n 1, 1) := by decide +kernel
theorem dX4_readPiece_122 : decode cX4_readPiece 122 = .ok (.iload_n 2, 1) := by decide +kernel
theorem dX4_readPiece_123 : decode cX4_readPiece 123 = .ok (.iconst 1, 1) := by decide +kernel
theorem dX4_readPiece_124 : decode cX4_readPiece 124 = .ok (.iadd, 1) := by decide +kernel
theorem dX4_readPiece_125 : decode cX4_readPiece 125 = .ok (.invokevirtual 84, 3) := by decide +kernel
theorem dX4_readPiece_128 : decode cX4_readPiece 128 = .ok (.aload_n 0, 1) := by decide +kernel
theorem dX4_readPiece_129 : decode cX4_readPiece 129 = .ok (.sipush 20033, 3) := by decide +kernel
theorem dX4_readPiece_132 : decode cX4_readPiece 132 = .ok (.invokevirtual 97, 3) := by decide +kernel
theorem dX4_readPiece_135 : decode cX4_readPiece 135 = .ok (.goto 42, 3) := by decide +kernel
theorem dX4_readPiece_138 : decode cX4_readPiece 138 = .ok (.aload_n 0, 1) := by decide +kernel
theorem dX4_readPiece_139 : decode cX4_readPiece 139 = .ok (.ldc 126, 2) := by decide +kernel
theorem dX4_readPiece_141 : decode cX4_readPiece 141 = .ok (.invokevirtual 92, 3) := by decide +kernel
theorem dX4_readPiece_144 : decode cX4_readPiece 144 = .ok (.ifCond .eq 29, 3) := by decide +kernel
theorem dX4_readPiece_147 : decode cX4_readPiece 147 = .ok (.iload_n 1, 1) := by decide +kernel
theorem dX4_readPiece_148 : decode cX4_readPiece 148 = .ok (.bipush 8, 2) := by decide +kernel
theorem dX4_readPiece_150 : decode cX4_readPiece 150 = .ok (.if_icmp .ge 23, 3) := by decide +kernel
theorem dX4_readPiece_153 : decode cX4_readPiece 153 = .ok (.aload_n 0, 1) := by decide +kernel
theorem dX4_readPiece_154 : decode cX4_readPiece 154 = .ok (.invokevirtual 55, 3) := by decide +kernel
theorem dX4_readPiece_157 : decode cX4_readPiece 157 = .ok (.aload_n 0, 1) := by decide +kernel
theorem dX4_readPiece_158 : decode cX4_readPiece 158 = .ok (.iconst 0, 1) := by decide +kernel
theorem dX4_readPiece_159 : decode cX4_readPiece 159 = .ok (.iload_n 1, 1) := by decide +kernel
theorem dX4_readPiece_160 : decode cX4_readPiece 160 = .ok (.iconst 1, 1) := by decide +kernel
theorem dX4_readPiece_161 : decode cX4_readPiece 161 = .ok (.iadd, 1) := by decide +kernel
theorem dX4_readPiece_162 : decode cX4_readPiece 162 = .ok (.iload_n 2, 1) := by decide +kernel
theorem dX4_readPiece_163 : decode cX4_readPiece 163 = .ok (.invokevirtual 61, 3) := by decide +kernel
theorem dX4_readPiece_166 : decode cX4_readPiece 166 = .ok (.aload_n 0, 1) := by decide +kernel
theorem dX4_readPiece_167 : decode cX4_readPiece 167 = .ok (.invokevirtual 128, 3) := by decide +kernel
theorem dX4_readPiece_170 : decode cX4_readPiece 170 = .ok (.goto 7, 3) := by decide +kernel
theorem dX4_readPiece_173 : decode cX4_readPiece 173 = .ok (.aload_n 0, 1) := by decide +kernel
theorem dX4_readPiece_174 : decode cX4_readPiece 174 = .ok (.invokevirtual 65, 3) := by decide +kernel
theorem dX4_readPiece_177 : decode cX4_readPiece 177 = .ok (.return_, 1) := by decide +kernel
theorem dX4_close_0 : decode cX4_close 0 = .ok (.aload_n 0, 1) := by decide +kernel
theorem dX4_close_1 : decode cX4_close 1 = .ok (.getfield 24, 3) := by decide +kernel
theorem dX4_close_4 : decode cX4_close 4 = .ok (.ifCond .ge 19, 3) := by decide +kernel
theorem dX4_close_7 : decode cX4_close 7 = .ok (.aload_n 0, 1) := by decide +kernel
theorem dX4_close_8 : decode cX4_close 8 = .ok (.ldc 131, 2) := by decide +kernel
theorem dX4_close_10 : decode cX4_close 10 = .ok (.invokevirtual 92, 3) := by decide +kernel
theorem dX4_close_13 : decode cX4_close 13 = .ok (.ifCond .eq 10, 3) := by decide +kernel
theorem dX4_close_16 : decode cX4_close 16 = .ok (.aload_n 0, 1) := by decide +kernel
theorem dX4_close_17 : decode cX4_close 17 = .ok (.invokevirtual 55, 3) := by decide +kernel
theorem dX4_close_20 : decode cX4_close 20 = .ok (.goto 7, 3) := by decide +kernel
theorem dX4_close_23 : decode cX4_close 23 = .ok (.aload_n 0, 1) := by decide +kernel
theorem dX4_close_24 : decode cX4_close 24 = .ok (.invokevirtual 65, 3) := by decide +kernel
theorem dX4_close_27 : decode cX4_close 27 = .ok (.return_, 1) := by decide +kernel
theorem dX4_number_0 : decode cX4_number 0 = .ok (.iconst 0, 1) := by decide +kernel
theorem dX4_number_1 : decode cX4_number 1 = .ok (.istore_n 1, 1) := by decide +kernel
theorem dX4_number_2 : decode cX4_number 2 = .ok (.aload_n 0, 1) := by decide +kernel
theorem dX4_number_3 : decode cX4_number 3 = .ok (.getfield 18, 3) := by decide +kernel
theorem dX4_number_6 : decode cX4_number 6 = .ok (.istore_n 2, 1) := by decide +kernel
theorem dX4_number_7 : decode cX4_number 7 = .ok (.iload_n 2, 1) := by decide +kernel
theorem dX4_number_8 : decode cX4_number 8 = .ok (.aload_n 0, 1) := by decide +kernel
theorem dX4_number_9 : decode cX4_number 9 = .ok (.getfield 21, 3) := by decide +kernel
theorem dX4_number_12 : decode cX4_number 12 = .ok (.if_icmp .ge 24, 3) := by decide +kernel
theorem dX4_number_15 : decode cX4_number 15 = .ok (.iload_n 1, 1) := by decide +kernel
theorem dX4_number_16 : decode cX4_number 16 = .ok (.bipush 10, 2) := by decide +kernel
theorem dX4_number_18 : decode cX4_number 18 = .ok (.imul, 1) := by decide +kernel
theorem dX4_number_19 : decode cX4_number 19 = .ok (.aload_n 0, 1) := by decide +kernel
theorem dX4_number_20 : decode cX4_number 20 = .ok (.getfield 46, 3) := by decide +kernel
theorem dX4_number_23 : decode cX4_number 23 = .ok (.iload_n 2, 1) := by decide +kernel
theorem dX4_number_24 : decode cX4_number 24 = .ok (.iaload, 1) := by decide +kernel
theorem dX4_number_25 : decode cX4_number 25 = .ok (.iadd, 1) := by decide +kernel
theorem dX4_number_26 : decode cX4_number 26 = .ok (.bipush 48, 2) := by decide +kernel
theorem dX4_number_28 : decode cX4_number 28 = .ok (.isub, 1) := by decide +kernel
theorem dX4_number_29 : decode cX4_number 29 = .ok (.istore_n 1, 1) := by decide +kernel
theorem dX4_number_30 : decode cX4_number 30 = .ok (.iinc 2 1, 3) := by decide +kernel
theorem dX4_number_33 : decode cX4_number 33 = .ok (.goto (-26), 3) := by decide +kernel
theorem dX4_number_36 : decode cX4_number 36 = .ok (.iload_n 1, 1) := by decide +kernel
theorem dX4_number_37 : decode cX4_number 37 = .ok (.ireturn, 1) := by decide +kernel
theorem dX4_putPiece_0 : decode cX4_putPiece 0 = .ok (.aload_n 0, 1) := by decide +kernel
theorem dX4_putPiece_1 : decode cX4_putPiece 1 = .ok (.iload_n 1, 1) := by decide +kernel
theorem dX4_putPiece_2 : decode cX4_putPiece 2 = .ok (.invokevirtual 97, 3) := by decide +kernel
theorem dX4_putPiece_5 : decode cX4_putPiece 5 = .ok (.aload_n 0, 1) := by decide +kernel
theorem dX4_putPiece_6 : decode cX4_putPiece 6 = .ok (.dup, 1) := by decide +kernel
theorem dX4_putPiece_7 : decode cX4_putPiece 7 = .ok (.getfield 43, 3) := by decide +kernel
theorem dX4_putPiece_10 : decode cX4_putPiece 10 = .ok (.iconst 1, 1) := by decide +kernel
theorem dX4_putPiece_11 : decode cX4_putPiece 11 = .ok (.iadd, 1) := by decide +kernel
theorem dX4_putPiece_12 : decode cX4_putPiece 12 = .ok (.putfield 43, 3) := by decide +kernel
theorem dX4_putPiece_15 : decode cX4_putPiece 15 = .ok (.aload_n 0, 1) := by decide +kernel
theorem dX4_putPiece_16 : decode cX4_putPiece 16 = .ok (.invokevirtual 55, 3) := by decide +kernel
theorem dX4_putPiece_19 : decode cX4_putPiece 19 = .ok (.return_, 1) := by decide +kernel
theorem dX4_put_0 : decode cX4_put 0 = .ok (.aload_n 0, 1) := by decide +kernel
theorem dX4_put_1 : decode cX4_put 1 = .ok (.getfield 40, 3) := by decide +kernel
theorem dX4_put_4 : decode cX4_put 4 = .ok (.aload_n 0, 1) := by decide +kernel
theorem dX4_put_5 : decode cX4_put 5 = .ok (.getfield 36, 3) := by decide +kernel
theorem dX4_put_8 : decode cX4_put 8 = .ok (.arraylength, 1) := by decide +kernel
theorem dX4_put_9 : decode cX4_put 9 = .ok (.if_icmp .ge 23, 3) := by decide +kernel
theorem dX4_put_12 : decode cX4_put 12 = .ok (.aload_n 0, 1) := by decide +kernel
theorem dX4_put_13 : decode cX4_put 13 = .ok (.getfield 36, 3) := by decide +kernel
theorem dX4_put_16 : decode cX4_put 16 = .ok (.aload_n 0, 1) := by decide +kernel
theorem dX4_put_17 : decode cX4_put 17 = .ok (.getfield 40, 3) := by decide +kernel
theorem dX4_put_20 : decode cX4_put 20 = .ok (.iload_n 1, 1) := by decide +kernel
theorem dX4_put_21 : decode cX4_put 21 = .ok (.iastore, 1) := by decide +kernel
theorem dX4_put_22 : decode cX4_put 22 = .ok (.aload_n 0, 1) := by decide +kernel
theorem dX4_put_23 : decode cX4_put 23 = .ok (.dup, 1) := by decide +kernel
theorem dX4_put_24 : decode cX4_put 24 = .ok (.getfield 40, 3) := by decide +kernel
theorem dX4_put_27 : decode cX4_put 27 = .ok (.iconst 1, 1) := by decide +kernel
theorem dX4_put_28 : decode cX4_put 28 = .ok (.iadd, 1) := by decide +kernel
theorem dX4_put_29 : decode cX4_put 29 = .ok (.putfield 40, 3) := by decide +kernel
theorem dX4_put_32 : decode cX4_put 32 = .ok (.return_, 1) := by decide +kernel
theorem dX4_fail_0 : decode cX4_fail 0 = .ok (.aload_n 0, 1) := by decide +kernel
theorem dX4_fail_1 : decode cX4_fail 1 = .ok (.getfield 24, 3) := by decide +kernel
theorem dX4_fail_4 : decode cX4_fail 4 = .ok (.ifCond .ge 11, 3) := by decide +kernel
theorem dX4_fail_7 : decode cX4_fail 7 = .ok (.aload_n 0, 1) := by decide +kernel
theorem dX4_fail_8 : decode cX4_fail 8 = .ok (.aload_n 0, 1) := by decide +kernel
theorem dX4_fail_9 : decode cX4_fail 9 = .ok (.getfield 18, 3) := by decide +kernel
theorem dX4_fail_12 : decode cX4_fail 12 = .ok (.putfield 24, 3) := by decide +kernel
theorem dX4_fail_15 : decode cX4_fail 15 = .ok (.return_, 1) := by decide +kernel
theorem dX4_isSignOf_0 : decode cX4_isSignOf 0 = .ok (.aload_n 0, 1) := by decide +kernel
theorem dX4_isSignOf_1 : decode cX4_isSignOf 1 = .ok (.getfield 15, 3) := by decide +kernel
theorem dX4_isSignOf_4 : decode cX4_isSignOf 4 = .ok (.iconst 3, 1) := by decide +kernel
theorem dX4_isSignOf_5 : decode cX4_isSignOf 5 = .ok (.if_icmp .ne 24, 3) := by decide +kernel
theorem dX4_isSignOf_8 : decode cX4_isSignOf 8 = .ok (.aload_n 1, 1) := by decide +kernel
theorem dX4_isSignOf_9 : decode cX4_isSignOf 9 = .ok (.aload_n 0, 1) := by decide +kernel
theorem dX4_isSignOf_10 : decode cX4_isSignOf 10 = .ok (.getfield 46, 3) := by decide +kernel
theorem dX4_isSignOf_13 : decode cX4_isSignOf 13 = .ok (.aload_n 0, 1) := by decide +kernel
theorem dX4_isSignOf_14 : decode cX4_isSignOf 14 = .ok (.getfield 18, 3) := by decide +kernel
theorem dX4_isSignOf_17 : decode cX4_isSignOf 17 = .ok (.iaload, 1) := by decide +kernel
theorem dX4_isSignOf_18 : decode cX4_isSignOf 18 = .ok (.i2c, 1) := by decide +kernel
theorem dX4_isSignOf_19 : decode cX4_isSignOf 19 = .ok (.invokevirtual 118, 3) := by decide +kernel
theorem dX4_isSignOf_22 : decode cX4_isSignOf 22 = .ok (.ifCond .lt 7, 3) := by decide +kernel
theorem dX4_isSignOf_25 : decode cX4_isSignOf 25 = .ok (.iconst 1, 1) := by decide +kernel
theorem dX4_isSignOf_26 : decode cX4_isSignOf 26 = .ok (.goto 4, 3) := by decide +kernel
theorem dX4_isSignOf_29 : decode cX4_isSignOf 29 = .ok (.iconst 0, 1) := by decide +kernel
theorem dX4_isSignOf_30 : decode cX4_isSignOf 30 = .ok (.ireturn, 1) := by decide +kernel
theorem dX4_isWord_0 : decode cX4_isWord 0 = .ok (.aload_n 0, 1) := by decide +kernel
theorem dX4_isWord_1 : decode cX4_isWord 1 = .ok (.getfield 15, 3) := by decide +kernel
theorem dX4_isWord_4 : decode cX4_isWord 4 = .ok (.iconst 1, 1) := by decide +kernel
theorem dX4_isWord_5 : decode cX4_isWord 5 = .ok (.if_icmp .ne 19, 3) := by decide +kernel
theorem dX4_isWord_8 : decode cX4_isWord 8 = .ok (.aload_n 0, 1) := by decide +kernel
theorem dX4_isWord_9 : decode cX4_isWord 9 = .ok (.getfield 21, 3) := by decide +kernel
theorem dX4_isWord_12 : decode cX4_isWord 12 = .ok (.aload_n 0, 1) := by decide +kernel
theorem dX4_isWord_13 : decode cX4_isWord 13 = .ok (.getfield 18, 3) := by decide +kernel
theorem dX4_isWord_16 : decode cX4_isWord 16 = .ok (.isub, 1) := by decide +kernel
theorem dX4_isWord_17 : decode cX4_isWord 17 = .ok (.aload_n 1, 1) := by decide +kernel
theorem dX4_isWord_18 : decode cX4_isWord 18 = .ok (.invokevirtual 133, 3) := by decide +kernel
theorem dX4_isWord_21 : decode cX4_isWord 21 = .ok (.if_icmp .eq 5, 3) := by decide +kernel
theorem dX4_isWord_24 : decode cX4_isWord 24 = .ok (.iconst 0, 1) := by decide +kernel
theorem dX4_isWord_25 : decode cX4_isWord 25 = .ok (.ireturn, 1) := by decide +kernel
theorem dX4_isWord_26 : decode cX4_isWord 26 = .ok (.iconst 0, 1) := by decide +kernel
theorem dX4_isWord_27 : decode cX4_isWord 27 = .ok (.istore_n 2, 1) := by decide +kernel
theorem dX4_isWord_28 : decode cX4_isWord 28 = .ok (.iload_n 2, 1) := by decide +kernel
theorem dX4_isWord_29 : decode cX4_isWord 29 = .ok (.aload_n 1, 1) := by decide +kernel
theorem dX4_isWord_30 : decode cX4_isWord 30 = .ok (.invokevirtual 133, 3) := by decide +kernel
theorem dX4_isWord_33 : decode cX4_isWord 33 = .ok (.if_icmp .ge 30, 3) := by decide +kernel
theorem dX4_isWord_36 : decode cX4_isWord 36 = .ok (.aload_n 0, 1) := by decide +kernel
theorem dX4_isWord_37 : decode cX4_isWord 37 = .ok (.getfield 46, 3) := by decide +kernel
theorem dX4_isWord_40 : decode cX4_isWord 40 = .ok (.aload_n 0, 1) := by decide +kernel
theorem dX4_isWord_41 : decode cX4_isWord 41 = .ok (.getfield 18, 3) := by decide +kernel
theorem dX4_isWord_44 : decode cX4_isWord 44 = .ok (.iload_n 2, 1) := by decide +kernel
theorem dX4_isWord_45 : decode cX4_isWord 45 = .ok (.iadd, 1) := by decide +kernel
theorem dX4_isWord_46 : decode cX4_isWord 46 = .ok (.iaload, 1) := by decide +kernel
theorem dX4_isWord_47 : decode cX4_isWord 47 = .ok (.aload_n 1, 1) := by decide +kernel
theorem dX4_isWord_48 : decode cX4_isWord 48 = .ok (.iload_n 2, 1) := by decide +kernel
theorem dX4_isWord_49 : decode cX4_isWord 49 = .ok (.invokevirtual 136, 3) := by decide +kernel
theorem dX4_isWord_52 : decode cX4_isWord 52 = .ok (.if_icmp .eq 5, 3) := by decide +kernel
theorem dX4_isWord_55 : decode cX4_isWord 55 = .ok (.iconst 0, 1) := by decide +kernel
theorem dX4_isWord_56 : decode cX4_isWord 56 = .ok (.ireturn, 1) := by decide +kernel
theorem dX4_isWord_57 : decode cX4_isWord 57 = .ok (.iinc 2 1, 3) := by decide +kernel
theorem dX4_isWord_60 : decode cX4_isWord 60 = .ok (.goto (-32), 3) := by decide +kernel
theorem dX4_isWord_63 : decode cX4_isWord 63 = .ok (.iconst 1, 1) := by decide +kernel
theorem dX4_isWord_64 : decode cX4_isWord 64 = .ok (.ireturn, 1) := by decide +kernel
theorem dX4_advance_0 : decode cX4_advance 0 = .ok (.aload_n 0, 1) := by decide +kernel
theorem dX4_advance_1 : decode cX4_advance 1 = .ok (.getfield 15, 3) := by decide +kernel
theorem dX4_advance_4 : decode cX4_advance 4 = .ok (.iconst 1, 1) := by decide +kernel
theorem dX4_advance_5 : decode cX4_advance 5 = .ok (.if_icmp .eq 11, 3) := by decide +kernel
theorem dX4_advance_8 : decode cX4_advance 8 = .ok (.aload_n 0, 1) := by decide +kernel
theorem dX4_advance_9 : decode cX4_advance 9 = .ok (.getfield 15, 3) := by decide +kernel
theorem dX4_advance_12 : decode cX4_advance 12 = .ok (.iconst 2, 1) := by decide +kernel
theorem dX4_advance_13 : decode cX4_advance 13 = .ok (.if_icmp .ne 7, 3) := by decide +kernel
theorem dX4_advance_16 : decode cX4_advance 16 = .ok (.iconst 1, 1) := by decide +kernel
theorem dX4_advance_17 : decode cX4_advance 17 = .ok (.goto 4, 3) := by decide +kernel
theorem dX4_advance_20 : decode cX4_advance 20 = .ok (.iconst 0, 1) := by decide +kernel
theorem dX4_advance_21 : decode cX4_advance 21 = .ok (.istore_n 1, 1) := by decide +kernel
theorem dX4_advance_22 : decode cX4_advance 22 = .ok (.aload_n 0, 1) := by decide +kernel
theorem dX4_advance_23 : decode cX4_advance 23 = .ok (.getfield 21, 3) := by decide +kernel
theorem dX4_advance_26 : decode cX4_advance 26 = .ok (.istore_n 2, 1) := by decide +kernel
theorem dX4_advance_27 : decode cX4_advance 27 = .ok (.aload_n 0, 1) := by decide +kernel
theorem dX4_advance_28 : decode cX4_advance 28 = .ok (.aload_n 0, 1) := by decide +kernel
theorem dX4_advance_29 : decode cX4_advance 29 = .ok (.getfield 21, 3) := by decide +kernel
theorem dX4_advance_32 : decode cX4_advance 32 = .ok (.putfield 18, 3) := by decide +kernel
theorem dX4_advance_35 : decode cX4_advance 35 = .ok (.aload_n 0, 1) := by decide +kernel
theorem dX4_advance_36 : decode cX4_advance 36 = .ok (.getfield 18, 3) := by decide +kernel
theorem dX4_advance_39 : decode cX4_advance 39 = .ok (.aload_n 0, 1) := by decide +kernel
theorem dX4_advance_40 : decode cX4_advance 40 = .ok (.getfield 9, 3) := by decide +kernel
theorem dX4_advance_43 : decode cX4_advance 43 = .ok (.if_icmp .ge 30, 3) := by decide +kernel
theorem dX4_advance_46 : decode cX4_advance 46 = .ok (.aload_n 0, 1) := by decide +kernel
theorem dX4_advance_47 : decode cX4_advance 47 = .ok (.getfield 46, 3) := by decide +kernel
theorem dX4_advance_50 : decode cX4_advance 50 = .ok (.aload_n 0, 1) := by decide +kernel
theorem dX4_advance_51 : decode cX4_advance 51 = .ok (.getfield 18, 3) := by decide +kernel
theorem dX4_advance_54 : decode cX4_advance 54 = .ok (.iaload, 1) := by decide +kernel
theorem dX4_advance_55 : decode cX4_advance 55 = .ok (.bipush 32, 2) := by decide +kernel
theorem dX4_advance_57 : decode cX4_advance 57 = .ok (.if_icmp .ne 16, 3) := by decide +kernel
theorem dX4_advance_60 : decode cX4_advance 60 = .ok (.aload_n 0, 1) := by decide +kernel
theorem dX4_advance_61 : decode cX4_advance 61 = .ok (.dup, 1) := by decide +kernel
theorem dX4_advance_62 : decode cX4_advance 62 = .ok (.getfield 18, 3) := by decide +kernel
theorem dX4_advance_65 : decode cX4_advance 65 = .ok (.iconst 1, 1) := by decide +kernel
theorem dX4_advance_66 : decode cX4_advance 66 = .ok (.iadd, 1) := by decide +kernel
theorem dX4_advance_67 : decode cX4_advance 67 = .ok (.putfield 18, 3) := by decide +kernel
theorem dX4_advance_70 : decode cX4_advance 70 = .ok (.goto (-35), 3) := by decide +kernel
theorem dX4_advance_73 : decode cX4_advance 73 = .ok (.aload_n 0, 1) := by decide +kernel
theorem dX4_advance_74 : decode cX4_advance 74 = .ok (.aload_n 0, 1) := by decide +kernel
theorem dX4_advance_75 : decode cX4_advance 75 = .ok (.getfield 18, 3) := by decide +kernel
theorem dX4_advance_78 : decode cX4_advance 78 = .ok (.aload_n 0, 1) := by decide +kernel
theorem dX4_advance_79 : decode cX4_advance 79 = .ok (.getfield 9, 3) := by decide +kernel
theorem dX4_advance_82 : decode cX4_advance 82 = .ok (.if_icmp .ge 18, 3) := by decide +kernel
theorem dX4_advance_85 : decode cX4_advance 85 = .ok (.aload_n 0, 1) := by decide +kernel
theorem dX4_advance_86 : decode cX4_advance 86 = .ok (.getfield 46, 3) := by decide +kernel
theorem dX4_advance_89 : decode cX4_advance 89 = .ok (.aload_n 0, 1) := by decide +kernel
theorem dX4_advance_90 : decode cX4_advance 90 = .ok (.getfield 18, 3) := by decide +kernel
theorem dX4_advance_93 : decode cX4_advance 93 = .ok (.iaload, 1) := by decide +kernel
theorem dX4_advance_94 : decode cX4_advance 94 = .ok (.invokestatic 140, 3) := by decide +kernel
theorem dX4_advance_97 : decode cX4_advance 97 = .ok (.goto 4, 3) := by decide +kernel
theorem dX4_advance_100 : decode cX4_advance 100 = .ok (.iconst 0, 1) := by decide +kernel
theorem dX4_advance_101 : decode cX4_advance 101 = .ok (.putfield 15, 3) := by decide +kernel
theorem dX4_advance_104 : decode cX4_advance 104 = .ok (.aload_n 0, 1) := by decide +kernel
theorem dX4_advance_105 : decode cX4_advance 105 = .ok (.aload_n 0, 1) := by decide +kernel
theorem dX4_advance_106 : decode cX4_advance 106 = .ok (.getfield 18, 3) := by decide +kernel
theorem dX4_advance_109 : decode cX4_advance 109 = .ok (.iconst 1, 1) := by decide +kernel
theorem dX4_advance_110 : decode cX4_advance 110 = .ok (.iadd, 1) := by decide +kernel
theorem dX4_advance_111 : decode cX4_advance 111 = .ok (.aload_n 0, 1) := by decide +kernel
theorem dX4_advance_112 : decode cX4_advance 112 = .ok (.getfield 9, 3) := by decide +kernel
theorem dX4_advance_115 : decode cX4_advance 115 = .ok (.invokestatic 49, 3) := by decide +kernel
theorem dX4_advance_118 : decode cX4_advance 118 = .ok (.putfield 21, 3) := by decide +kernel
theorem dX4_advance_121 : decode cX4_advance 121 = .ok (.aload_n 0, 1) := by decide +kernel
theorem dX4_advance_122 : decode cX4_advance 122 = .ok (.getfield 15, 3) := by decide +kernel
theorem dX4_advance_125 : decode cX4_advance 125 = .ok (.iconst 1, 1) := by decide +kernel
theorem dX4_advance_126 : decode cX4_advance 126 = .ok (.if_icmp .eq 11, 3) := by decide +kernel
theorem dX4_advance_129 : decode cX4_advance 129 = .ok (.aload_n 0, 1) := by decide +kernel
theorem dX4_advance_130 : decode cX4_advance 130 = .ok (.getfield 15, 3) := by decide +kernel
theorem dX4_advance_133 : decode cX4_advance 133 = .ok (.iconst 2, 1) := by decide +kernel
theorem dX4_advance_134 : decode cX4_advance 134 = .ok (.if_icmp .ne 63, 3) := by decide +kernel
theorem dX4_advance_137 : decode cX4_advance 137 = .ok (.aload_n 0, 1) := by decide +kernel
theorem dX4_advance_138 : decode cX4_advance 138 = .ok (.getfield 21, 3) := by decide +kernel
theorem dX4_advance_141 : decode cX4_advance 141 = .ok (.aload_n 0, 1) := by decide +kernel
theorem dX4_advance_142 : decode cX4_advance 142 = .ok (.getfield 9, 3) := by decide +kernel
theorem dX4_advance_145 : decode cX4_advance 145 = .ok (.if_icmp .ge 35, 3) := by decide +kernel
theorem dX4_advance_148 : decode cX4_advance 148 = .ok (.aload_n 0, 1) := by decide +kernel
theorem dX4_advance_149 : decode cX4_advance 149 = .ok (.getfield 46, 3) := by decide +kernel
theorem dX4_advance_152 : decode cX4_advance 152 = .ok (.aload_n 0, 1) := by decide +kernel
theorem dX4_advance_153 : decode cX4_advance 153 = .ok (.getfield 21, 3) := by decide +kernel
theorem dX4_advance_156 : decode cX4_advance 156 = .ok (.iaload, 1) := by decide +kernel
theorem dX4_advance_157 : decode cX4_advance 157 = .ok (.invokestatic 140, 3) := by decide +kernel
theorem dX4_advance_160 : decode cX4_advance 160 = .ok (.aload_n 0, 1) := by decide +kernel
theorem dX4_advance_161 : decode cX4_advance 161 = .ok (.getfield 15, 3) := by decide +kernel
theorem dX4_advance_164 : decode cX4_advance 164 = .ok (.if_icmp .ne 16, 3) := by decide +kernel
theorem dX4_advance_167 : decode cX4_advance 167 = .ok (.aload_n 0, 1) := by decide +kernel
theorem dX4_advance_168 : decode cX4_advance 168 = .ok (.dup, 1) := by decide +kernel
theorem dX4_advance_169 : decode cX4_advance 169 = .ok (.getfield 21, 3) := by decide +kernel
theorem dX4_advance_172 : decode cX4_advance 172 = .ok (.iconst 1, 1) := by decide +kernel
theorem dX4_advance_173 : decode cX4_advance 173 = .ok (.iadd, 1) := by decide +kernel
theorem dX4_advance_174 : decode cX4_advance 174 = .ok (.putfield 21, 3) := by decide +kernel
theorem dX4_advance_177 : decode cX4_advance 177 = .ok (.goto (-40), 3) := by decide +kernel
theorem dX4_advance_180 : decode cX4_advance 180 = .ok (.iload_n 1, 1) := by decide +kernel
theorem dX4_advance_181 : decode cX4_advance 181 = .ok (.ifCond .eq 16, 3) := by decide +kernel
theorem dX4_advance_184 : decode cX4_advance 184 = .ok (.aload_n 0, 1) := by decide +kernel
theorem dX4_advance_185 : decode cX4_advance 185 = .ok (.getfield 18, 3) := by decide +kernel
theorem dX4_advance_188 : decode cX4_advance 188 = .ok (.iload_n 2, 1) := by decide +kernel
theorem dX4_advance_189 : decode cX4_advance 189 = .ok (.if_icmp .ne 8, 3) := by decide +kernel
theorem dX4_advance_192 : decode cX4_advance 192 = .ok (.aload_n 0, 1) := by decide +kernel
theorem dX4_advance_193 : decode cX4_advance 193 = .ok (.iconst 4, 1) := by decide +kernel
theorem dX4_advance_194 : decode cX4_advance 194 = .ok (.putfield 15, 3) := by decide +kernel
theorem dX4_advance_197 : decode cX4_advance 197 = .ok (.return_, 1) := by decide +kernel
theorem dX4_sortOf_0 : decode cX4_sortOf 0 = .ok (.iload_n 0, 1) := by decide +kernel
theorem dX4_sortOf_1 : decode cX4_sortOf 1 = .ok (.bipush 97, 2) := by decide +kernel
theorem dX4_sortOf_3 : decode cX4_sortOf 3 = .ok (.if_icmp .lt 11, 3) := by decide +kernel
theorem dX4_sortOf_6 : decode cX4_sortOf 6 = .ok (.iload_n 0, 1) := by decide +kernel
theorem dX4_sortOf_7 : decode cX4_sortOf 7 = .ok (.bipush 122, 2) := by decide +kernel
theorem dX4_sortOf_9 : decode cX4_sortOf 9 = .ok (.if_icmp .gt 5, 3) := by decide +kernel
theorem dX4_sortOf_12 : decode cX4_sortOf 12 = .ok (.iconst 1, 1) := by decide +kernel
theorem dX4_sortOf_13 : decode cX4_sortOf 13 = .ok (.ireturn, 1) := by decide +kernel
theorem dX4_sortOf_14 : decode cX4_sortOf 14 = .ok (.iload_n 0, 1) := by decide +kernel
theorem dX4_sortOf_15 : decode cX4_sortOf 15 = .ok (.bipush 48, 2) := by decide +kernel
theorem dX4_sortOf_17 : decode cX4_sortOf 17 = .ok (.if_icmp .lt 13, 3) := by decide +kernel
theorem dX4_sortOf_20 : decode cX4_sortOf 20 = .ok (.iload_n 0, 1) := by decide +kernel
theorem dX4_sortOf_21 : decode cX4_sortOf 21 = .ok (.bipush 57, 2) := by decide +kernel
theorem dX4_sortOf_23 : decode cX4_sortOf 23 = .ok (.if_icmp .gt 7, 3) := by decide +kernel
theorem dX4_sortOf_26 : decode cX4_sortOf 26 = .ok (.iconst 2, 1) := by decide +kernel
theorem dX4_sortOf_27 : decode cX4_sortOf 27 = .ok (.goto 4, 3) := by decide +kernel
theorem dX4_sortOf_30 : decode cX4_sortOf 30 = .ok (.iconst 3, 1) := by decide +kernel
theorem dX4_sortOf_31 : decode cX4_sortOf 31 = .ok (.ireturn, 1) := by decide +kernel
theorem dX5_init_0 : decode cX5_init 0 = .ok (.aload_n 0, 1) := by decide +kernel
theorem dX5_init_1 : decode cX5_init 1 = .ok (.invokespecial 3, 3) := by decide +kernel
theorem dX5_init_4 : decode cX5_init 4 = .ok (.aload_n 0, 1) := by decide +kernel
theorem dX5_init_5 : decode cX5_init 5 = .ok (.iconst (-1), 1) := by decide +kernel
theorem dX5_init_6 : decode cX5_init 6 = .ok (.putfield 9, 3) := by decide +kernel
theorem dX5_init_9 : decode cX5_init 9 = .ok (.aload_n 0, 1) := by decide +kernel
theorem dX5_init_10 : decode cX5_init 10 = .ok (.iconst 0, 1) := by decide +kernel
theorem dX5_init_11 : decode cX5_init 11 = .ok (.putfield 15, 3) := by decide +kernel
theorem dX5_init_14 : decode cX5_init 14 = .ok (.aload_n 0, 1) := by decide +kernel
theorem dX5_init_15 : decode cX5_init 15 = .ok (.bipush 24, 2) := by decide +kernel
theorem dX5_init_17 : decode cX5_init 17 = .ok (.newarray .int, 2) := by decide +kernel
theorem dX5_init_19 : decode cX5_init 19 = .ok (.putfield 18, 3) := by decide +kernel
theorem dX5_init_22 : decode cX5_init 22 = .ok (.return_, 1) := by decide +kernel
theorem dX5_clear_0 : decode cX5_clear 0 = .ok (.aload_n 0, 1) := by decide +kernel
theorem dX5_clear_1 : decode cX5_clear 1 = .ok (.iload_n 1, 1) := by decide +kernel
theorem dX5_clear_2 : decode cX5_clear 2 = .ok (.putfield 9, 3) := by decide +kernel
theorem dX5_clear_5 : decode cX5_clear 5 = .ok (.aload_n 0, 1) := by decide +kernel
theorem dX5_clear_6 : decode cX5_clear 6 = .ok (.iload_n 2, 1) := by decide +kernel
theorem dX5_clear_7 : decode cX5_clear 7 = .ok (.putfield 15, 3) := by decide +kernel
theorem dX5_clear_10 : decode cX5_clear 10 = .ok (.iconst 0, 1) := by decide +kernel
theorem dX5_clear_11 : decode cX5_clear 11 = .ok (.istore_n 3, 1) := by decide +kernel
theorem dX5_clear_12 : decode cX5_clear 12 = .ok (.iload_n 3, 1) := by decide +kernel
theorem dX5_clear_13 : decode cX5_clear 13 = .ok (.bipush 24, 2) := by decide +kernel
theorem dX5_clear_15 : decode cX5_clear 15 = .ok (.if_icmp .ge 16, 3) := by decide +kernel
theorem dX5_clear_18 : decode cX5_clear 18 = .ok (.aload_n 0, 1) := by decide +kernel
theorem dX5_clear_19 : decode cX5_clear 19 = .ok (.getfield 18, 3) := by decide +kernel
theorem dX5_clear_22 : decode cX5_clear 22 = .ok (.iload_n 3, 1) := by decide +kernel
theorem dX5_clear_23 : decode cX5_clear 23 = .ok (.iconst 0, 1) := by decide +kernel
theorem dX5_clear_24 : decode cX5_clear 24 = .ok (.iastore, 1) := by decide +kernel
theorem dX5_clear_25 : decode cX5_clear 25 = .ok (.iinc 3 1, 3) := by decide +kernel
theorem dX5_clear_28 : decode cX5_clear 28 = .ok (.goto (-16), 3) := by decide +kernel
theorem dX5_clear_31 : decode cX5_clear 31 = .ok (.return_, 1) := by decide +kernel
theorem dX5_become_0 : decode cX5_become 0 = .ok (.aload_n 0, 1) := by decide +kernel
theorem dX5_become_1 : decode cX5_become 1 = .ok (.aload_n 1, 1) := by decide +kernel
theorem dX5_become_2 : decode cX5_become 2 = .ok (.getfield 9, 3) := by decide +kernel
theorem dX5_become_5 : decode cX5_become 5 = .ok (.putfield 9, 3) := by decide +kernel
theorem dX5_become_8 : decode cX5_become 8 = .ok (.aload_n 0, 1) := by decide +kernel
theorem dX5_become_9 : decode cX5_become 9 = .ok (.aload_n 1, 1) := by decide +kernel
theorem dX5_become_10 : decode cX5_become 10 = .ok (.getfield 15, 3) := by decide +kernel
theorem dX5_become_13 : decode cX5_become 13 = .ok (.putfield 15, 3) := by decide +kernel
theorem dX5_become_16 : decode cX5_become 16 = .ok (.aload_n 1, 1) := by decide +kernel
theorem dX5_become_17 : decode cX5_become 17 = .ok (.getfield 18, 3) := by decide +kernel
theorem dX5_become_20 : decode cX5_become 20 = .ok (.iconst 0, 1) := by decide +kernel
theorem dX5_become_21 : decode cX5_become 21 = .ok (.aload_n 0, 1) := by decide +kernel
theorem dX5_become_22 : decode cX5_become 22 = .ok (.getfield 18, 3) := by decide +kernel
theorem dX5_become_25 : decode cX5_become 25 = .ok (.iconst 0, 1) := by decide +kernel
theorem dX5_become_26 : decode cX5_become 26 = .ok (.bipush 24, 2) := by decide +kernel
theorem dX5_become_28 : decode cX5_become 28 = .ok (.invokestatic 22, 3) := by decide +kernel
theorem dX5_become_31 : decode cX5_become 31 = .ok (.return_, 1) := by decide +kernel
theorem dX5_hasPlace_0 : decode cX5_hasPlace 0 = .ok (.iload_n 1, 1) := by decide +kernel
theorem dX5_hasPlace_1 : decode cX5_hasPlace 1 = .ok (.ifCond .lt 15, 3) := by decide +kernel
theorem dX5_hasPlace_4 : decode cX5_hasPlace 4 = .ok (.iload_n 1, 1) := by decide +kernel
theorem dX5_hasPlace_5 : decode cX5_hasPlace 5 = .ok (.aload_n 0, 1) := by decide +kernel
theorem dX5_hasPlace_6 : decode cX5_hasPlace 6 = .ok (.getfield 15, 3) := by decide +kernel
theorem dX5_hasPlace_9 : decode cX5_hasPlace 9 = .ok (.if_icmp .ge 7, 3) := by decide +kernel
theorem dX5_hasPlace_12 : decode cX5_hasPlace 12 = .ok (.iconst 1, 1) := by decide +kernel
theorem dX5_hasPlace_13 : decode cX5_hasPlace 13 = .ok (.goto 4, 3) := by decide +kernel
theorem dX5_hasPlace_16 : decode cX5_hasPlace 16 = .ok (.iconst 0, 1) := by decide +kernel
theorem dX5_hasPlace_17 : decode cX5_hasPlace 17 = .ok (.ireturn, 1) := by decide +kernel
theorem dX5_hasNumber_0 : decode cX5_hasNumber 0 = .ok (.aload_n 0, 1) := by decide +kernel
theorem dX5_hasNumber_1 : decode cX5_hasNumber 1 = .ok (.iload_n 1, 1) := by decide +kernel
theorem dX5_hasNumber_2 : decode cX5_hasNumber 2 = .ok (.invokevirtual 28, 3) := by decide +kernel
theorem dX5_hasNumber_5 : decode cX5_hasNumber 5 = .ok (.ifCond .eq 18, 3) := by decide +kernel
theorem dX5_hasNumber_8 : decode cX5_hasNumber 8 = .ok (.aload_n 0, 1) := by decide +kernel
theorem dX5_hasNumber_9 : decode cX5_hasNumber 9 = .ok (.getfield 18, 3) := by decide +kernel
theorem dX5_hasNumber_12 : decode cX5_hasNumber 12 = .ok (.iload_n 1, 1) := by decide +kernel
theorem dX5_hasNumber_13 : decode cX5_hasNumber 13 = .ok (.iaload, 1) := by decide +kernel
theorem dX5_hasNumber_14 : decode cX5_hasNumber 14 = .ok (.ldc 32, 2) := by decide +kernel
theorem dX5_hasNumber_16 : decode cX5_hasNumber 16 = .ok (.if_icmp .eq 7, 3) := by decide +kernel
theorem dX5_hasNumber_19 : decode cX5_hasNumber 19 = .ok (.iconst 1, 1) := by decide +kernel
theorem dX5_hasNumber_20 : decode cX5_hasNumber 20 = .ok (.goto 4, 3) := by decide +kernel
theorem dX5_hasNumber_23 : decode cX5_hasNumber 23 = .ok (.iconst 0, 1) := by decide +kernel
theorem dX5_hasNumber_24 : decode cX5_hasNumber 24 = .ok (.ireturn, 1) := by decide +kernel
theorem dX5_hasPlaces_0 : decode cX5_hasPlaces 0 = .ok (.iload_n 1, 1) := by decide +kernel
theorem dX5_hasPlaces_1 : decode cX5_hasPlaces 1 = .ok (.ifCond .lt 29, 3) := by decide +kernel
theorem dX5_hasPlaces_4 : decode cX5_hasPlaces 4 = .ok (.iload_n 2, 1) := by decide +kernel
theorem dX5_hasPlaces_5 : decode cX5_hasPlaces 5 = .ok (.ifCond .lt 25, 3) := by decide +kernel
theorem dX5_hasPlaces_8 : decode cX5_hasPlaces 8 = .ok (.iload_n 1, 1) := by decide +kernel
theorem dX5_hasPlaces_9 : decode cX5_hasPlaces 9 = .ok (.aload_n 0, 1) := by decide +kernel
theorem dX5_hasPlaces_10 : decode cX5_hasPlaces 10 = .ok (.getfield 15, 3) := by decide +kernel
theorem dX5_hasPlaces_13 : decode cX5_hasPlaces 13 = .ok (.if_icmp .gt 17, 3) := by decide +kernel
theorem dX5_hasPlaces_16 : decode cX5_hasPlaces 16 = .ok (.iload_n 2, 1) := by decide +kernel
theorem dX5_hasPlaces_17 : decode cX5_hasPlaces 17 = .ok (.aload_n 0, 1) := by decide +kernel
theorem dX5_hasPlaces_18 : decode cX5_hasPlaces 18 = .ok (.getfield 15, 3) := by decide +kernel
theorem dX5_hasPlaces_21 : decode cX5_hasPlaces 21 = .ok (.iload_n 1, 1) := by decide +kernel
theorem dX5_hasPlaces_22 : decode cX5_hasPlaces 22 = .ok (.isub, 1) := by decide +kernel
theorem dX5_hasPlaces_23 : decode cX5_hasPlaces 23 = .ok (.if_icmp .gt 7, 3) := by decide +kernel
theorem dX5_hasPlaces_26 : decode cX5_hasPlaces 26 = .ok (.iconst 1, 1) := by decide +kernel
theorem dX5_hasPlaces_27 : decode cX5_hasPlaces 27 = .ok (.goto 4, 3) := by decide +kernel
theorem dX5_hasPlaces_30 : decode cX5_hasPlaces 30 = .ok (.iconst 0, 1) := by decide +kernel
theorem dX5_hasPlaces_31 : decode cX5_hasPlaces 31 = .ok (.ireturn, 1) := by decide +kernel
theorem dX6_init_0 : decode cX6_init 0 = .ok (.aload_n 0, 1) := by decide +kernel
theorem dX6_init_1 : decode cX6_init 1 = .ok (.invokespecial 3, 3) := by decide +kernel
theorem dX6_init_4 : decode cX6_init 4 = .ok (.aload_n 0, 1) := by decide +kernel
theorem dX6_init_5 : decode cX6_init 5 = .ok (.iconst 0, 1) := by decide +kernel
theorem dX6_init_6 : decode cX6_init 6 = .ok (.putfield 9, 3) := by decide +kernel
theorem dX6_init_9 : decode cX6_init 9 = .ok (.aload_n 0, 1) := by decide +kernel
theorem dX6_init_10 : decode cX6_init 10 = .ok (.iconst 0, 1) := by decide +kernel
theorem dX6_init_11 : decode cX6_init 11 = .ok (.putfield 15, 3) := by decide +kernel
theorem dX6_init_14 : decode cX6_init 14 = .ok (.aload_n 0, 1) := by decide +kernel
theorem dX6_init_15 : decode cX6_init 15 = .ok (.iconst 0, 1) := by decide +kernel
theorem dX6_init_16 : decode cX6_init 16 = .ok (.putfield 18, 3) := by decide +kernel
theorem dX6_init_19 : decode cX6_init 19 = .ok (.aload_n 0, 1) := by decide +kernel
theorem dX6_init_20 : decode cX6_init 20 = .ok (.iconst 0, 1) := by decide +kernel
theorem dX6_init_21 : decode cX6_init 21 = .ok (.putfield 21, 3) := by decide +kernel
theorem dX6_init_24 : decode cX6_init 24 = .ok (.aload_n 0, 1) := by decide +kernel
theorem dX6_init_25 : decode cX6_init 25 = .ok (.new 24, 3) := by decide +kernel
theorem dX6_init_28 : decode cX6_init 28 = .ok (.dup, 1) := by decide +kernel
theorem dX6_init_29 : decode cX6_init 29 = .ok (.invokespecial 26, 3) := by decide +kernel
theorem dX6_init_32 : decode cX6_init 32 = .ok (.putfield 27, 3) := by decide +kernel
theorem dX6_init_35 : decode cX6_init 35 = .ok (.return_, 1) := by decide +kernel
