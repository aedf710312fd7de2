theorem dX7_init_0 : decode cX7_init 0 = .ok (.aload_n 0, 1) := by decide +kernel
theorem dX7_init_1 : decode cX7_init 1 = .ok (.invokespecial 1, 3) := by decide +kernel
theorem dX7_init_4 : decode cX7_init 4 = .ok (.aload_n 0, 1) := by decide +kernel
theorem dX7_init_5 : decode cX7_init 5 = .ok (.bipush 96, 2) := by decide +kernel
theorem dX7_init_7 : decode cX7_init 7 = .ok (.newarray .int, 2) := by decide +kernel
theorem dX7_init_9 : decode cX7_init 9 = .ok (.putfield 9, 3) := by decide +kernel
theorem dX7_init_12 : decode cX7_init 12 = .ok (.aload_n 0, 1) := by decide +kernel
theorem dX7_init_13 : decode cX7_init 13 = .ok (.iconst 0, 1) := by decide +kernel
theorem dX7_init_14 : decode cX7_init 14 = .ok (.putfield 13, 3) := by decide +kernel
theorem dX7_init_17 : decode cX7_init 17 = .ok (.aload_n 0, 1) := by decide +kernel
theorem dX7_init_18 : decode cX7_init 18 = .ok (.new 17, 3) := by decide +kernel
theorem dX7_init_21 : decode cX7_init 21 = .ok (.dup, 1) := by decide +kernel
theorem dX7_init_22 : decode cX7_init 22 = .ok (.invokespecial 19, 3) := by decide +kernel
theorem dX7_init_25 : decode cX7_init 25 = .ok (.putfield 20, 3) := by decide +kernel
theorem dX7_init_28 : decode cX7_init 28 = .ok (.aload_n 0, 1) := by decide +kernel
theorem dX7_init_29 : decode cX7_init 29 = .ok (.new 24, 3) := by decide +kernel
theorem dX7_init_32 : decode cX7_init 32 = .ok (.dup, 1) := by decide +kernel
theorem dX7_init_33 : decode cX7_init 33 = .ok (.aload_n 0, 1) := by decide +kernel
theorem dX7_init_34 : decode cX7_init 34 = .ok (.getfield 9, 3) := by decide +kernel
theorem dX7_init_37 : decode cX7_init 37 = .ok (.invokespecial 26, 3) := by decide +kernel
theorem dX7_init_40 : decode cX7_init 40 = .ok (.putfield 29, 3) := by decide +kernel
theorem dX7_init_43 : decode cX7_init 43 = .ok (.aload_n 0, 1) := by decide +kernel
theorem dX7_init_44 : decode cX7_init 44 = .ok (.new 33, 3) := by decide +kernel
theorem dX7_init_47 : decode cX7_init 47 = .ok (.dup, 1) := by decide +kernel
theorem dX7_init_48 : decode cX7_init 48 = .ok (.aload_n 0, 1) := by decide +kernel
theorem dX7_init_49 : decode cX7_init 49 = .ok (.getfield 20, 3) := by decide +kernel
theorem dX7_init_52 : decode cX7_init 52 = .ok (.invokespecial 35, 3) := by decide +kernel
theorem dX7_init_55 : decode cX7_init 55 = .ok (.putfield 38, 3) := by decide +kernel
theorem dX7_init_58 : decode cX7_init 58 = .ok (.aload_n 0, 1) := by decide +kernel
theorem dX7_init_59 : decode cX7_init 59 = .ok (.new 33, 3) := by decide +kernel
theorem dX7_init_62 : decode cX7_init 62 = .ok (.dup, 1) := by decide +kernel
theorem dX7_init_63 : decode cX7_init 63 = .ok (.aload_n 0, 1) := by decide +kernel
theorem dX7_init_64 : decode cX7_init 64 = .ok (.getfield 20, 3) := by decide +kernel
theorem dX7_init_67 : decode cX7_init 67 = .ok (.invokespecial 35, 3) := by decide +kernel
theorem dX7_init_70 : decode cX7_init 70 = .ok (.putfield 42, 3) := by decide +kernel
theorem dX7_init_73 : decode cX7_init 73 = .ok (.aload_n 0, 1) := by decide +kernel
theorem dX7_init_74 : decode cX7_init 74 = .ok (.new 33, 3) := by decide +kernel
theorem dX7_init_77 : decode cX7_init 77 = .ok (.dup, 1) := by decide +kernel
theorem dX7_init_78 : decode cX7_init 78 = .ok (.aload_n 0, 1) := by decide +kernel
theorem dX7_init_79 : decode cX7_init 79 = .ok (.getfield 20, 3) := by decide +kernel
theorem dX7_init_82 : decode cX7_init 82 = .ok (.invokespecial 35, 3) := by decide +kernel
theorem dX7_init_85 : decode cX7_init 85 = .ok (.putfield 45, 3) := by decide +kernel
theorem dX7_init_88 : decode cX7_init 88 = .ok (.aload_n 0, 1) := by decide +kernel
theorem dX7_init_89 : decode cX7_init 89 = .ok (.iconst 0, 1) := by decide +kernel
theorem dX7_init_90 : decode cX7_init 90 = .ok (.putfield 48, 3) := by decide +kernel
theorem dX7_init_93 : decode cX7_init 93 = .ok (.aload_n 0, 1) := by decide +kernel
theorem dX7_init_94 : decode cX7_init 94 = .ok (.new 52, 3) := by decide +kernel
theorem dX7_init_97 : decode cX7_init 97 = .ok (.dup, 1) := by decide +kernel
theorem dX7_init_98 : decode cX7_init 98 = .ok (.invokespecial 54, 3) := by decide +kernel
theorem dX7_init_101 : decode cX7_init 101 = .ok (.putfield 55, 3) := by decide +kernel
theorem dX7_init_104 : decode cX7_init 104 = .ok (.aload_n 0, 1) := by decide +kernel
theorem dX7_init_105 : decode cX7_init 105 = .ok (.bipush 60, 2) := by decide +kernel
theorem dX7_init_107 : decode cX7_init 107 = .ok (.newarray .int, 2) := by decide +kernel
theorem dX7_init_109 : decode cX7_init 109 = .ok (.putfield 59, 3) := by decide +kernel
theorem dX7_init_112 : decode cX7_init 112 = .ok (.aload_n 0, 1) := by decide +kernel
theorem dX7_init_113 : decode cX7_init 113 = .ok (.iconst 0, 1) := by decide +kernel
theorem dX7_init_114 : decode cX7_init 114 = .ok (.putfield 62, 3) := by decide +kernel
theorem dX7_init_117 : decode cX7_init 117 = .ok (.aload_n 0, 1) := by decide +kernel
theorem dX7_init_118 : decode cX7_init 118 = .ok (.iconst 4, 1) := by decide +kernel
theorem dX7_init_119 : decode cX7_init 119 = .ok (.anewarray 65, 3) := by decide +kernel
theorem dX7_init_122 : decode cX7_init 122 = .ok (.putfield 67, 3) := by decide +kernel
theorem dX7_init_125 : decode cX7_init 125 = .ok (.aload_n 0, 1) := by decide +kernel
theorem dX7_init_126 : decode cX7_init 126 = .ok (.iconst 5, 1) := by decide +kernel
theorem dX7_init_127 : decode cX7_init 127 = .ok (.anewarray 71, 3) := by decide +kernel
theorem dX7_init_130 : decode cX7_init 130 = .ok (.putfield 73, 3) := by decide +kernel
theorem dX7_init_133 : decode cX7_init 133 = .ok (.iconst 0, 1) := by decide +kernel
theorem dX7_init_134 : decode cX7_init 134 = .ok (.istore_n 1, 1) := by decide +kernel
theorem dX7_init_135 : decode cX7_init 135 = .ok (.iload_n 1, 1) := by decide +kernel
theorem dX7_init_136 : decode cX7_init 136 = .ok (.iconst 4, 1) := by decide +kernel
theorem dX7_init_137 : decode cX7_init 137 = .ok (.if_icmp .ge 22, 3) := by decide +kernel
theorem dX7_init_140 : decode cX7_init 140 = .ok (.aload_n 0, 1) := by decide +kernel
theorem dX7_init_141 : decode cX7_init 141 = .ok (.getfield 67, 3) := by decide +kernel
theorem dX7_init_144 : decode cX7_init 144 = .ok (.iload_n 1, 1) := by decide +kernel
theorem dX7_init_145 : decode cX7_init 145 = .ok (.new 65, 3) := by decide +kernel
theorem dX7_init_148 : decode cX7_init 148 = .ok (.dup, 1) := by decide +kernel
theorem dX7_init_149 : decode cX7_init 149 = .ok (.invokespecial 77, 3) := by decide +kernel
theorem dX7_init_152 : decode cX7_init 152 = .ok (.aastore, 1) := by decide +kernel
theorem dX7_init_153 : decode cX7_init 153 = .ok (.iinc 1 1, 3) := by decide +kernel
theorem dX7_init_156 : decode cX7_init 156 = .ok (.goto (-21), 3) := by decide +kernel
theorem dX7_init_159 : decode cX7_init 159 = .ok (.iconst 0, 1) := by decide +kernel
theorem dX7_init_160 : decode cX7_init 160 = .ok (.istore_n 1, 1) := by decide +kernel
theorem dX7_init_161 : decode cX7_init 161 = .ok (.iload_n 1, 1) := by decide +kernel
theorem dX7_init_162 : decode cX7_init 162 = .ok (.iconst 5, 1) := by decide +kernel
theorem dX7_init_163 : decode cX7_init 163 = .ok (.if_icmp .ge 22, 3) := by decide +kernel
theorem dX7_init_166 : decode cX7_init 166 = .ok (.aload_n 0, 1) := by decide +kernel
theorem dX7_init_167 : decode cX7_init 167 = .ok (.getfield 73, 3) := by decide +kernel
theorem dX7_init_170 : decode cX7_init 170 = .ok (.iload_n 1, 1) := by decide +kernel
theorem dX7_init_171 : decode cX7_init 171 = .ok (.new 71, 3) := by decide +kernel
theorem dX7_init_174 : decode cX7_init 174 = .ok (.dup, 1) := by decide +kernel
theorem dX7_init_175 : decode cX7_init 175 = .ok (.invokespecial 78, 3) := by decide +kernel
theorem dX7_init_178 : decode cX7_init 178 = .ok (.aastore, 1) := by decide +kernel
theorem dX7_init_179 : decode cX7_init 179 = .ok (.iinc 1 1, 3) := by decide +kernel
theorem dX7_init_182 : decode cX7_init 182 = .ok (.goto (-21), 3) := by decide +kernel
theorem dX7_init_185 : decode cX7_init 185 = .ok (.return_, 1) := by decide +kernel
theorem dX7_lodger_0 : decode cX7_lodger 0 = .ok (.iconst 0, 1) := by decide +kernel
theorem dX7_lodger_1 : decode cX7_lodger 1 = .ok (.iload_n 1, 1) := by decide +kernel
theorem dX7_lodger_2 : decode cX7_lodger 2 = .ok (.invokestatic 79, 3) := by decide +kernel
theorem dX7_lodger_5 : decode cX7_lodger 5 = .ok (.ifCond .eq 19, 3) := by decide +kernel
theorem dX7_lodger_8 : decode cX7_lodger 8 = .ok (.iconst 1, 1) := by decide +kernel
theorem dX7_lodger_9 : decode cX7_lodger 9 = .ok (.iload_n 2, 1) := by decide +kernel
theorem dX7_lodger_10 : decode cX7_lodger 10 = .ok (.invokestatic 79, 3) := by decide +kernel
theorem dX7_lodger_13 : decode cX7_lodger 13 = .ok (.ifCond .eq 11, 3) := by decide +kernel
theorem dX7_lodger_16 : decode cX7_lodger 16 = .ok (.iconst 2, 1) := by decide +kernel
theorem dX7_lodger_17 : decode cX7_lodger 17 = .ok (.iload_n 3, 1) := by decide +kernel
theorem dX7_lodger_18 : decode cX7_lodger 18 = .ok (.invokestatic 79, 3) := by decide +kernel
theorem dX7_lodger_21 : decode cX7_lodger 21 = .ok (.ifCond .ne 6, 3) := by decide +kernel
theorem dX7_lodger_24 : decode cX7_lodger 24 = .ok (.ldc 83, 2) := by decide +kernel
theorem dX7_lodger_26 : decode cX7_lodger 26 = .ok (.ireturn, 1) := by decide +kernel
theorem dX7_lodger_27 : decode cX7_lodger 27 = .ok (.aload_n 0, 1) := by decide +kernel
theorem dX7_lodger_28 : decode cX7_lodger 28 = .ok (.getfield 38, 3) := by decide +kernel
theorem dX7_lodger_31 : decode cX7_lodger 31 = .ok (.getfield 84, 3) := by decide +kernel
theorem dX7_lodger_34 : decode cX7_lodger 34 = .ok (.bipush 10, 2) := by decide +kernel
theorem dX7_lodger_36 : decode cX7_lodger 36 = .ok (.if_icmp .ge 16, 3) := by decide +kernel
theorem dX7_lodger_39 : decode cX7_lodger 39 = .ok (.aload_n 0, 1) := by decide +kernel
theorem dX7_lodger_40 : decode cX7_lodger 40 = .ok (.getfield 38, 3) := by decide +kernel
theorem dX7_lodger_43 : decode cX7_lodger 43 = .ok (.iload_n 1, 1) := by decide +kernel
theorem dX7_lodger_44 : decode cX7_lodger 44 = .ok (.iload_n 2, 1) := by decide +kernel
theorem dX7_lodger_45 : decode cX7_lodger 45 = .ok (.iload_n 3, 1) := by decide +kernel
theorem dX7_lodger_46 : decode cX7_lodger 46 = .ok (.invokevirtual 87, 3) := by decide +kernel
theorem dX7_lodger_49 : decode cX7_lodger 49 = .ok (.goto 5, 3) := by decide +kernel
theorem dX7_lodger_52 : decode cX7_lodger 52 = .ok (.ldc 91, 2) := by decide +kernel
theorem dX7_lodger_54 : decode cX7_lodger 54 = .ok (.ireturn, 1) := by decide +kernel
theorem dX7_told_0 : decode cX7_told 0 = .ok (.aload_n 0, 1) := by decide +kernel
theorem dX7_told_1 : decode cX7_told 1 = .ok (.iload_n 1, 1) := by decide +kernel
theorem dX7_told_2 : decode cX7_told 2 = .ok (.invokevirtual 92, 3) := by decide +kernel
theorem dX7_told_5 : decode cX7_told 5 = .ok (.ifCond .eq 13, 3) := by decide +kernel
theorem dX7_told_8 : decode cX7_told 8 = .ok (.iload_n 2, 1) := by decide +kernel
theorem dX7_told_9 : decode cX7_told 9 = .ok (.iconst 0, 1) := by decide +kernel
theorem dX7_told_10 : decode cX7_told 10 = .ok (.bipush 9, 2) := by decide +kernel
theorem dX7_told_12 : decode cX7_told 12 = .ok (.invokestatic 96, 3) := by decide +kernel
theorem dX7_told_15 : decode cX7_told 15 = .ok (.ifCond .ne 6, 3) := by decide +kernel
theorem dX7_told_18 : decode cX7_told 18 = .ok (.ldc 83, 2) := by decide +kernel
theorem dX7_told_20 : decode cX7_told 20 = .ok (.ireturn, 1) := by decide +kernel
theorem dX7_told_21 : decode cX7_told 21 = .ok (.iload_n 2, 1) := by decide +kernel
theorem dX7_told_22 : decode cX7_told 22 = .ok (.bipush 9, 2) := by decide +kernel
theorem dX7_told_24 : decode cX7_told 24 = .ok (.if_icmp .ne 29, 3) := by decide +kernel
theorem dX7_told_27 : decode cX7_told 27 = .ok (.aload_n 0, 1) := by decide +kernel
theorem dX7_told_28 : decode cX7_told 28 = .ok (.getfield 38, 3) := by decide +kernel
theorem dX7_told_31 : decode cX7_told 31 = .ok (.getfield 100, 3) := by decide +kernel
theorem dX7_told_34 : decode cX7_told 34 = .ok (.iconst 0, 1) := by decide +kernel
theorem dX7_told_35 : decode cX7_told 35 = .ok (.aaload, 1) := by decide +kernel
theorem dX7_told_36 : decode cX7_told 36 = .ok (.iload_n 1, 1) := by decide +kernel
theorem dX7_told_37 : decode cX7_told 37 = .ok (.iaload, 1) := by decide +kernel
theorem dX7_told_38 : decode cX7_told 38 = .ok (.aload_n 0, 1) := by decide +kernel
theorem dX7_told_39 : decode cX7_told 39 = .ok (.getfield 38, 3) := by decide +kernel
theorem dX7_told_42 : decode cX7_told 42 = .ok (.getfield 100, 3) := by decide +kernel
theorem dX7_told_45 : decode cX7_told 45 = .ok (.iconst 2, 1) := by decide +kernel
theorem dX7_told_46 : decode cX7_told 46 = .ok (.aaload, 1) := by decide +kernel
theorem dX7_told_47 : decode cX7_told 47 = .ok (.iload_n 1, 1) := by decide +kernel
theorem dX7_told_48 : decode cX7_told 48 = .ok (.iaload, 1) := by decide +kernel
theorem dX7_told_49 : decode cX7_told 49 = .ok (.invokestatic 104, 3) := by decide +kernel
theorem dX7_told_52 : decode cX7_told 52 = .ok (.ireturn, 1) := by decide +kernel
theorem dX7_told_53 : decode cX7_told 53 = .ok (.aload_n 0, 1) := by decide +kernel
theorem dX7_told_54 : decode cX7_told 54 = .ok (.getfield 38, 3) := by decide +kernel
theorem dX7_told_57 : decode cX7_told 57 = .ok (.getfield 100, 3) := by decide +kernel
theorem dX7_told_60 : decode cX7_told 60 = .ok (.iload_n 2, 1) := by decide +kernel
theorem dX7_told_61 : decode cX7_told 61 = .ok (.aaload, 1) := by decide +kernel
theorem dX7_told_62 : decode cX7_told 62 = .ok (.iload_n 1, 1) := by decide +kernel
theorem dX7_told_63 : decode cX7_told 63 = .ok (.iaload, 1) := by decide +kernel
theorem dX7_told_64 : decode cX7_told 64 = .ok (.ireturn, 1) := by decide +kernel
theorem dX7_burns_0 : decode cX7_burns 0 = .ok (.aload_n 0, 1) := by decide +kernel
theorem dX7_burns_1 : decode cX7_burns 1 = .ok (.iload_n 1, 1) := by decide +kernel
theorem dX7_burns_2 : decode cX7_burns 2 = .ok (.invokevirtual 92, 3) := by decide +kernel
theorem dX7_burns_5 : decode cX7_burns 5 = .ok (.ifCond .eq 25, 3) := by decide +kernel
theorem dX7_burns_8 : decode cX7_burns 8 = .ok (.iload_n 2, 1) := by decide +kernel
theorem dX7_burns_9 : decode cX7_burns 9 = .ok (.iconst 0, 1) := by decide +kernel
theorem dX7_burns_10 : decode cX7_burns 10 = .ok (.bipush 59, 2) := by decide +kernel
theorem dX7_burns_12 : decode cX7_burns 12 = .ok (.invokestatic 96, 3) := by decide +kernel
theorem dX7_burns_15 : decode cX7_burns 15 = .ok (.ifCond .eq 15, 3) := by decide +kernel
theorem dX7_burns_18 : decode cX7_burns 18 = .ok (.aload_n 0, 1) := by decide +kernel
theorem dX7_burns_19 : decode cX7_burns 19 = .ok (.getfield 38, 3) := by decide +kernel
theorem dX7_burns_22 : decode cX7_burns 22 = .ok (.iload_n 1, 1) := by decide +kernel
theorem dX7_burns_23 : decode cX7_burns 23 = .ok (.iload_n 2, 1) := by decide +kernel
theorem dX7_burns_24 : decode cX7_burns 24 = .ok (.invokevirtual 110, 3) := by decide +kernel
theorem dX7_burns_27 : decode cX7_burns 27 = .ok (.goto 5, 3) := by decide +kernel
theorem dX7_burns_30 : decode cX7_burns 30 = .ok (.ldc 83, 2) := by decide +kernel
theorem dX7_burns_32 : decode cX7_burns 32 = .ok (.ireturn, 1) := by decide +kernel
theorem dX7_as_0 : decode cX7_as 0 = .ok (.aload_n 0, 1) := by decide +kernel
theorem dX7_as_1 : decode cX7_as 1 = .ok (.iload_n 1, 1) := by decide +kernel
theorem dX7_as_2 : decode cX7_as 2 = .ok (.invokevirtual 92, 3) := by decide +kernel
theorem dX7_as_5 : decode cX7_as 5 = .ok (.ifCond .eq 11, 3) := by decide +kernel
theorem dX7_as_8 : decode cX7_as 8 = .ok (.iconst 0, 1) := by decide +kernel
theorem dX7_as_9 : decode cX7_as 9 = .ok (.iload_n 2, 1) := by decide +kernel
theorem dX7_as_10 : decode cX7_as 10 = .ok (.invokestatic 79, 3) := by decide +kernel
theorem dX7_as_13 : decode cX7_as 13 = .ok (.ifCond .ne 6, 3) := by decide +kernel
theorem dX7_as_16 : decode cX7_as 16 = .ok (.ldc 83, 2) := by decide +kernel
theorem dX7_as_18 : decode cX7_as 18 = .ok (.ireturn, 1) := by decide +kernel
theorem dX7_as_19 : decode cX7_as 19 = .ok (.aload_n 0, 1) := by decide +kernel
theorem dX7_as_20 : decode cX7_as 20 = .ok (.getfield 38, 3) := by decide +kernel
theorem dX7_as_23 : decode cX7_as 23 = .ok (.getfield 100, 3) := by decide +kernel
theorem dX7_as_26 : decode cX7_as 26 = .ok (.iconst 0, 1) := by decide +kernel
theorem dX7_as_27 : decode cX7_as 27 = .ok (.aaload, 1) := by decide +kernel
theorem dX7_as_28 : decode cX7_as 28 = .ok (.iload_n 1, 1) := by decide +kernel
theorem dX7_as_29 : decode cX7_as 29 = .ok (.iaload, 1) := by decide +kernel
theorem dX7_as_30 : decode cX7_as 30 = .ok (.iload_n 2, 1) := by decide +kernel
theorem dX7_as_31 : decode cX7_as 31 = .ok (.invokestatic 113, 3) := by decide +kernel
theorem dX7_as_34 : decode cX7_as 34 = .ok (.ifCond .eq 17, 3) := by decide +kernel
theorem dX7_as_37 : decode cX7_as 37 = .ok (.aload_n 0, 1) := by decide +kernel
theorem dX7_as_38 : decode cX7_as 38 = .ok (.getfield 38, 3) := by decide +kernel
theorem dX7_as_41 : decode cX7_as 41 = .ok (.getfield 100, 3) := by decide +kernel
theorem dX7_as_44 : decode cX7_as 44 = .ok (.iconst 2, 1) := by decide +kernel
theorem dX7_as_45 : decode cX7_as 45 = .ok (.aaload, 1) := by decide +kernel
theorem dX7_as_46 : decode cX7_as 46 = .ok (.iload_n 1, 1) := by decide +kernel
theorem dX7_as_47 : decode cX7_as 47 = .ok (.iaload, 1) := by decide +kernel
theorem dX7_as_48 : decode cX7_as 48 = .ok (.goto 5, 3) := by decide +kernel
theorem dX7_as_51 : decode cX7_as 51 = .ok (.ldc 116, 2) := by decide +kernel
theorem dX7_as_53 : decode cX7_as 53 = .ok (.ireturn, 1) := by decide +kernel
theorem dX7_turns_0 : decode cX7_turns 0 = .ok (.aload_n 0, 1) := by decide +kernel
theorem dX7_turns_1 : decode cX7_turns 1 = .ok (.iload_n 1, 1) := by decide +kernel
theorem dX7_turns_2 : decode cX7_turns 2 = .ok (.invokevirtual 92, 3) := by decide +kernel
theorem dX7_turns_5 : decode cX7_turns 5 = .ok (.ifCond .eq 24, 3) := by decide +kernel
theorem dX7_turns_8 : decode cX7_turns 8 = .ok (.iconst 0, 1) := by decide +kernel
theorem dX7_turns_9 : decode cX7_turns 9 = .ok (.iload_n 2, 1) := by decide +kernel
theorem dX7_turns_10 : decode cX7_turns 10 = .ok (.invokestatic 79, 3) := by decide +kernel
theorem dX7_turns_13 : decode cX7_turns 13 = .ok (.ifCond .eq 16, 3) := by decide +kernel
theorem dX7_turns_16 : decode cX7_turns 16 = .ok (.aload_n 0, 1) := by decide +kernel
theorem dX7_turns_17 : decode cX7_turns 17 = .ok (.getfield 38, 3) := by decide +kernel
theorem dX7_turns_20 : decode cX7_turns 20 = .ok (.iload_n 1, 1) := by decide +kernel
theorem dX7_turns_21 : decode cX7_turns 21 = .ok (.iconst 0, 1) := by decide +kernel
theorem dX7_turns_22 : decode cX7_turns 22 = .ok (.iload_n 2, 1) := by decide +kernel
theorem dX7_turns_23 : decode cX7_turns 23 = .ok (.invokevirtual 117, 3) := by decide +kernel
theorem dX7_turns_26 : decode cX7_turns 26 = .ok (.goto 5, 3) := by decide +kernel
theorem dX7_turns_29 : decode cX7_turns 29 = .ok (.ldc 83, 2) := by decide +kernel
theorem dX7_turns_31 : decode cX7_turns 31 = .ok (.ireturn, 1) := by decide +kernel
theorem dX7_set_0 : decode cX7_set 0 = .ok (.aload_n 0, 1) := by decide +kernel
theorem dX7_set_1 : decode cX7_set 1 = .ok (.iload_n 1, 1) := by decide +kernel
theorem dX7_set_2 : decode cX7_set 2 = .ok (.invokevirtual 92, 3) := by decide +kernel
theorem dX7_set_5 : decode cX7_set 5 = .ok (.ifCond .eq 20, 3) := by decide +kernel
theorem dX7_set_8 : decode cX7_set 8 = .ok (.iload_n 2, 1) := by decide +kernel
theorem dX7_set_9 : decode cX7_set 9 = .ok (.iconst 1, 1) := by decide +kernel
theorem dX7_set_10 : decode cX7_set 10 = .ok (.iconst 4, 1) := by decide +kernel
theorem dX7_set_11 : decode cX7_set 11 = .ok (.invokestatic 96, 3) := by decide +kernel
theorem dX7_set_14 : decode cX7_set 14 = .ok (.ifCond .eq 11, 3) := by decide +kernel
theorem dX7_set_17 : decode cX7_set 17 = .ok (.iload_n 2, 1) := by decide +kernel
theorem dX7_set_18 : decode cX7_set 18 = .ok (.iload_n 3, 1) := by decide +kernel
theorem dX7_set_19 : decode cX7_set 19 = .ok (.invokestatic 79, 3) := by decide +kernel
theorem dX7_set_22 : decode cX7_set 22 = .ok (.ifCond .ne 6, 3) := by decide +kernel
theorem dX7_set_25 : decode cX7_set 25 = .ok (.ldc 83, 2) := by decide +kernel
theorem dX7_set_27 : decode cX7_set 27 = .ok (.ireturn, 1) := by decide +kernel
theorem dX7_set_28 : decode cX7_set 28 = .ok (.aload_n 0, 1) := by decide +kernel
theorem dX7_set_29 : decode cX7_set 29 = .ok (.getfield 38, 3) := by decide +kernel
theorem dX7_set_32 : decode cX7_set 32 = .ok (.iload_n 1, 1) := by decide +kernel
theorem dX7_set_33 : decode cX7_set 33 = .ok (.iload_n 2, 1) := by decide +kernel
theorem dX7_set_34 : decode cX7_set 34 = .ok (.iload_n 3, 1) := by decide +kernel
theorem dX7_set_35 : decode cX7_set 35 = .ok (.invokevirtual 117, 3) := by decide +kernel
theorem dX7_set_38 : decode cX7_set 38 = .ok (.ireturn, 1) := by decide +kernel
theorem dX7_rule_0 : decode cX7_rule 0 = .ok (.iload_n 1, 1) := by decide +kernel
theorem dX7_rule_1 : decode cX7_rule 1 = .ok (.ifCond .ne 30, 3) := by decide +kernel
theorem dX7_rule_4 : decode cX7_rule 4 = .ok (.iload_n 2, 1) := by decide +kernel
theorem dX7_rule_5 : decode cX7_rule 5 = .ok (.iconst 0, 1) := by decide +kernel
theorem dX7_rule_6 : decode cX7_rule 6 = .ok (.iconst 3, 1) := by decide +kernel
theorem dX7_rule_7 : decode cX7_rule 7 = .ok (.invokestatic 96, 3) := by decide +kernel
theorem dX7_rule_10 : decode cX7_rule 10 = .ok (.ifCond .eq 21, 3) := by decide +kernel
theorem dX7_rule_13 : decode cX7_rule 13 = .ok (.aload_n 0, 1) := by decide +kernel
theorem dX7_rule_14 : decode cX7_rule 14 = .ok (.getfield 38, 3) := by decide +kernel
theorem dX7_rule_17 : decode cX7_rule 17 = .ok (.getfield 120, 3) := by decide +kernel
theorem dX7_rule_20 : decode cX7_rule 20 = .ok (.istore_n 3, 1) := by decide +kernel
theorem dX7_rule_21 : decode cX7_rule 21 = .ok (.aload_n 0, 1) := by decide +kernel
theorem dX7_rule_22 : decode cX7_rule 22 = .ok (.getfield 38, 3) := by decide +kernel
theorem dX7_rule_25 : decode cX7_rule 25 = .ok (.iload_n 2, 1) := by decide +kernel
theorem dX7_rule_26 : decode cX7_rule 26 = .ok (.putfield 120, 3) := by decide +kernel
theorem dX7_rule_29 : decode cX7_rule 29 = .ok (.iload_n 3, 1) := by decide +kernel
theorem dX7_rule_30 : decode cX7_rule 30 = .ok (.ireturn, 1) := by decide +kernel
theorem dX7_rule_31 : decode cX7_rule 31 = .ok (.iload_n 1, 1) := by decide +kernel
theorem dX7_rule_32 : decode cX7_rule 32 = .ok (.iconst 1, 1) := by decide +kernel
theorem dX7_rule_33 : decode cX7_rule 33 = .ok (.if_icmp .ne 31, 3) := by decide +kernel
theorem dX7_rule_36 : decode cX7_rule 36 = .ok (.iload_n 2, 1) := by decide +kernel
theorem dX7_rule_37 : decode cX7_rule 37 = .ok (.iconst 0, 1) := by decide +kernel
theorem dX7_rule_38 : decode cX7_rule 38 = .ok (.bipush 99, 2) := by decide +kernel
theorem dX7_rule_40 : decode cX7_rule 40 = .ok (.invokestatic 96, 3) := by decide +kernel
theorem dX7_rule_43 : decode cX7_rule 43 = .ok (.ifCond .eq 21, 3) := by decide +kernel
theorem dX7_rule_46 : decode cX7_rule 46 = .ok (.aload_n 0, 1) := by decide +kernel
theorem dX7_rule_47 : decode cX7_rule 47 = .ok (.getfield 38, 3) := by decide +kernel
theorem dX7_rule_50 : decode cX7_rule 50 = .ok (.getfield 123, 3) := by decide +kernel
theorem dX7_rule_53 : decode cX7_rule 53 = .ok (.istore_n 3, 1) := by decide +kernel
theorem dX7_rule_54 : decode cX7_rule 54 = .ok (.aload_n 0, 1) := by decide +kernel
theorem dX7_rule_55 : decode cX7_rule 55 = .ok (.getfield 38, 3) := by decide +kernel
theorem dX7_rule_58 : decode cX7_rule 58 = .ok (.iload_n 2, 1) := by decide +kernel
theorem dX7_rule_59 : decode cX7_rule 59 = .ok (.putfield 123, 3) := by decide +kernel
theorem dX7_rule_62 : decode cX7_rule 62 = .ok (.iload_n 3, 1) := by decide +kernel
theorem dX7_rule_63 : decode cX7_rule 63 = .ok (.ireturn, 1) := by decide +kernel
theorem dX7_rule_64 : decode cX7_rule 64 = .ok (.ldc 83, 2) := by decide +kernel
theorem dX7_rule_66 : decode cX7_rule 66 = .ok (.ireturn, 1) := by decide +kernel
theorem dX7_deal_0 : decode cX7_deal 0 = .ok (.iload_n 1, 1) := by decide +kernel
theorem dX7_deal_1 : decode cX7_deal 1 = .ok (.iconst 1, 1) := by decide +kernel
theorem dX7_deal_2 : decode cX7_deal 2 = .ok (.bipush 10, 2) := by decide +kernel
theorem dX7_deal_4 : decode cX7_deal 4 = .ok (.invokestatic 96, 3) := by decide +kernel
theorem dX7_deal_7 : decode cX7_deal 7 = .ok (.ifCond .ne 6, 3) := by decide +kernel
theorem dX7_deal_10 : decode cX7_deal 10 = .ok (.ldc 83, 2) := by decide +kernel
theorem dX7_deal_12 : decode cX7_deal 12 = .ok (.ireturn, 1) := by decide +kernel
theorem dX7_deal_13 : decode cX7_deal 13 = .ok (.iload_n 1, 1) := by decide +kernel
theorem dX7_deal_14 : decode cX7_deal 14 = .ok (.bipush 10, 2) := by decide +kernel
theorem dX7_deal_16 : decode cX7_deal 16 = .ok (.aload_n 0, 1) := by decide +kernel
theorem dX7_deal_17 : decode cX7_deal 17 = .ok (.getfield 38, 3) := by decide +kernel
theorem dX7_deal_20 : decode cX7_deal 20 = .ok (.getfield 84, 3) := by decide +kernel
theorem dX7_deal_23 : decode cX7_deal 23 = .ok (.isub, 1) := by decide +kernel
theorem dX7_deal_24 : decode cX7_deal 24 = .ok (.invokestatic 126, 3) := by decide +kernel
theorem dX7_deal_27 : decode cX7_deal 27 = .ok (.istore_n 2, 1) := by decide +kernel
theorem dX7_deal_28 : decode cX7_deal 28 = .ok (.iconst 0, 1) := by decide +kernel
theorem dX7_deal_29 : decode cX7_deal 29 = .ok (.istore_n 3, 1) := by decide +kernel
theorem dX7_deal_30 : decode cX7_deal 30 = .ok (.iload_n 3, 1) := by decide +kernel
theorem dX7_deal_31 : decode cX7_deal 31 = .ok (.iload_n 2, 1) := by decide +kernel
theorem dX7_deal_32 : decode cX7_deal 32 = .ok (.if_icmp .ge 59, 3) := by decide +kernel
theorem dX7_deal_35 : decode cX7_deal 35 = .ok (.aload_n 0, 1) := by decide +kernel
theorem dX7_deal_36 : decode cX7_deal 36 = .ok (.getfield 38, 3) := by decide +kernel
theorem dX7_deal_39 : decode cX7_deal 39 = .ok (.invokevirtual 131, 3) := by decide +kernel
theorem dX7_deal_42 : decode cX7_deal 42 = .ok (.bipush 6, 2) := by decide +kernel
theorem dX7_deal_44 : decode cX7_deal 44 = .ok (.irem, 1) := by decide +kernel
theorem dX7_deal_45 : decode cX7_deal 45 = .ok (.istore 4, 2) := by decide +kernel
theorem dX7_deal_47 : decode cX7_deal 47 = .ok (.aload_n 0, 1) := by decide +kernel
theorem dX7_deal_48 : decode cX7_deal 48 = .ok (.getfield 38, 3) := by decide +kernel
theorem dX7_deal_51 : decode cX7_deal 51 = .ok (.invokevirtual 131, 3) := by decide +kernel
theorem dX7_deal_54 : decode cX7_deal 54 = .ok (.iconst 3, 1) := by decide +kernel
theorem dX7_deal_55 : decode cX7_deal 55 = .ok (.irem, 1) := by decide +kernel
theorem dX7_deal_56 : decode cX7_deal 56 = .ok (.istore 5, 2) := by decide +kernel
theorem dX7_deal_58 : decode cX7_deal 58 = .ok (.aload_n 0, 1) := by decide +kernel
theorem dX7_deal_59 : decode cX7_deal 59 = .ok (.getfield 38, 3) := by decide +kernel
theorem dX7_deal_62 : decode cX7_deal 62 = .ok (.invokevirtual 131, 3) := by decide +kernel
theorem dX7_deal_65 : decode cX7_deal 65 = .ok (.sipush 600, 3) := by decide +kernel
theorem dX7_deal_68 : decode cX7_deal 68 = .ok (.irem, 1) := by decide +kernel
theorem dX7_deal_69 : decode cX7_deal 69 = .ok (.istore 6, 2) := by decide +kernel
theorem dX7_deal_71 : decode cX7_deal 71 = .ok (.aload_n 0, 1) := by decide +kernel
theorem dX7_deal_72 : decode cX7_deal 72 = .ok (.getfield 38, 3) := by decide +kernel
theorem dX7_deal_75 : decode cX7_deal 75 = .ok (.iload 4, 2) := by decide +kernel
theorem dX7_deal_77 : decode cX7_deal 77 = .ok (.iload 5, 2) := by decide +kernel
theorem dX7_deal_79 : decode cX7_deal 79 = .ok (.iload 6, 2) := by decide +kernel
theorem dX7_deal_81 : decode cX7_deal 81 = .ok (.invokevirtual 87, 3) := by decide +kernel
theorem dX7_deal_84 : decode cX7_deal 84 = .ok (.pop, 1) := by decide +kernel
theorem dX7_deal_85 : decode cX7_deal 85 = .ok (.iinc 3 1, 3) := by decide +kernel
theorem dX7_deal_88 : decode cX7_deal 88 = .ok (.goto (-58), 3) := by decide +kernel
theorem dX7_deal_91 : decode cX7_deal 91 = .ok (.iload_n 2, 1) := by decide +kernel
theorem dX7_deal_92 : decode cX7_deal 92 = .ok (.ireturn, 1) := by decide +kernel
theorem dX7_seed_0 : decode cX7_seed 0 = .ok (.aload_n 0, 1) := by decide +kernel
theorem dX7_seed_1 : decode cX7_seed 1 = .ok (.getfield 38, 3) := by decide +kernel
theorem dX7_seed_4 : decode cX7_seed 4 = .ok (.getfield 135, 3) := by decide +kernel
theorem dX7_seed_7 : decode cX7_seed 7 = .ok (.istore_n 2, 1) := by decide +kernel
theorem dX7_seed_8 : decode cX7_seed 8 = .ok (.aload_n 0, 1) := by decide +kernel
theorem dX7_seed_9 : decode cX7_seed 9 = .ok (.getfield 38, 3) := by decide +kernel
theorem dX7_seed_12 : decode cX7_seed 12 = .ok (.iload_n 1, 1) := by decide +kernel
theorem dX7_seed_13 : decode cX7_seed 13 = .ok (.putfield 135, 3) := by decide +kernel
theorem dX7_seed_16 : decode cX7_seed 16 = .ok (.iload_n 2, 1) := by decide +kernel
theorem dX7_seed_17 : decode cX7_seed 17 = .ok (.ireturn, 1) := by decide +kernel
theorem dX7_nights_0 : decode cX7_nights 0 = .ok (.iload_n 1, 1) := by decide +kernel
theorem dX7_nights_1 : decode cX7_nights 1 = .ok (.iconst 1, 1) := by decide +kernel
theorem dX7_nights_2 : decode cX7_nights 2 = .ok (.bipush 100, 2) := by decide +kernel
theorem dX7_nights_4 : decode cX7_nights 4 = .ok (.invokestatic 96, 3) := by decide +kernel
theorem dX7_nights_7 : decode cX7_nights 7 = .ok (.ifCond .ne 6, 3) := by decide +kernel
theorem dX7_nights_10 : decode cX7_nights 10 = .ok (.ldc 83, 2) := by decide +kernel
theorem dX7_nights_12 : decode cX7_nights 12 = .ok (.ireturn, 1) := by decide +kernel
theorem dX7_nights_13 : decode cX7_nights 13 = .ok (.aload_n 0, 1) := by decide +kernel
theorem dX7_nights_14 : decode cX7_nights 14 = .ok (.getfield 38, 3) := by decide +kernel
theorem dX7_nights_17 : decode cX7_nights 17 = .ok (.iload_n 1, 1) := by decide +kernel
theorem dX7_nights_18 : decode cX7_nights 18 = .ok (.sipush 9999, 3) := by decide +kernel
theorem dX7_nights_21 : decode cX7_nights 21 = .ok (.aload_n 0, 1) := by decide +kernel
theorem dX7_nights_22 : decode cX7_nights 22 = .ok (.getfield 38, 3) := by decide +kernel
theorem dX7_nights_25 : decode cX7_nights 25 = .ok (.getfield 138, 3) := by decide +kernel
theorem dX7_nights_28 : decode cX7_nights 28 = .ok (.isub, 1) := by decide +kernel
theorem dX7_nights_29 : decode cX7_nights 29 = .ok (.invokestatic 126, 3) := by decide +kernel
theorem dX7_nights_32 : decode cX7_nights 32 = .ok (.invokevirtual 141, 3) := by decide +kernel
theorem dX7_nights_35 : decode cX7_nights 35 = .ok (.ireturn, 1) := by decide +kernel
theorem dX7_house_0 : decode cX7_house 0 = .ok (.iload_n 1, 1) := by decide +kernel
theorem dX7_house_1 : decode cX7_house 1 = .ok (.iconst 0, 1) := by decide +kernel
theorem dX7_house_2 : decode cX7_house 2 = .ok (.bipush 6, 2) := by decide +kernel
theorem dX7_house_4 : decode cX7_house 4 = .ok (.invokestatic 96, 3) := by decide +kernel
theorem dX7_house_7 : decode cX7_house 7 = .ok (.ifCond .ne 6, 3) := by decide +kernel
theorem dX7_house_10 : decode cX7_house 10 = .ok (.ldc 83, 2) := by decide +kernel
theorem dX7_house_12 : decode cX7_house 12 = .ok (.ireturn, 1) := by decide +kernel
theorem dX7_house_13 : decode cX7_house 13 = .ok (.iload_n 1, 1) := by decide +kernel
theorem dX7_house_14 : decode cX7_house 14 = .ok (.tableswitch 69 0 3 #[30, 39, 49, 59], 30) := by decide +kernel
theorem dX7_house_44 : decode cX7_house 44 = .ok (.aload_n 0, 1) := by decide +kernel
theorem dX7_house_45 : decode cX7_house 45 = .ok (.getfield 38, 3) := by decide +kernel
theorem dX7_house_48 : decode cX7_house 48 = .ok (.iconst 5, 1) := by decide +kernel
theorem dX7_house_49 : decode cX7_house 49 = .ok (.invokevirtual 145, 3) := by decide +kernel
theorem dX7_house_52 : decode cX7_house 52 = .ok (.ireturn, 1) := by decide +kernel
theorem dX7_house_53 : decode cX7_house 53 = .ok (.aload_n 0, 1) := by decide +kernel
theorem dX7_house_54 : decode cX7_house 54 = .ok (.getfield 38, 3) := by decide +kernel
theorem dX7_house_57 : decode cX7_house 57 = .ok (.bipush 6, 2) := by decide +kernel
theorem dX7_house_59 : decode cX7_house 59 = .ok (.invokevirtual 145, 3) := by decide +kernel
theorem dX7_house_62 : decode cX7_house 62 = .ok (.ireturn, 1) := by decide +kernel
theorem dX7_house_63 : decode cX7_house 63 = .ok (.aload_n 0, 1) := by decide +kernel
theorem dX7_house_64 : decode cX7_house 64 = .ok (.getfield 38, 3) := by decide +kernel
theorem dX7_house_67 : decode cX7_house 67 = .ok (.bipush 7, 2) := by decide +kernel
theorem dX7_house_69 : decode cX7_house 69 = .ok (.invokevirtual 145, 3) := by decide +kernel
theorem dX7_house_72 : decode cX7_house 72 = .ok (.ireturn, 1) := by decide +kernel
theorem dX7_house_73 : decode cX7_house 73 = .ok (.aload_n 0, 1) := by decide +kernel
theorem dX7_house_74 : decode cX7_house 74 = .ok (.getfield 38, 3) := by decide +kernel
theorem dX7_house_77 : decode cX7_house 77 = .ok (.bipush 8, 2) := by decide +kernel
theorem dX7_house_79 : decode cX7_house 79 = .ok (.invokevirtual 145, 3) := by decide +kernel
theorem dX7_house_82 : decode cX7_house 82 = .ok (.ireturn, 1) := by decide +kernel
theorem dX7_house_83 : decode cX7_house 83 = .ok (.aload_n 0, 1) := by decide +kernel
theorem dX7_house_84 : decode cX7_house 84 = .ok (.getfield 38, 3) := by decide +kernel
theorem dX7_house_87 : decode cX7_house 87 = .ok (.iload_n 1, 1) := by decide +kernel
theorem dX7_house_88 : decode cX7_house 88 = .ok (.iconst 4, 1) := by decide +kernel
theorem dX7_house_89 : decode cX7_house 89 = .ok (.isub, 1) := by decide +kernel
theorem dX7_house_90 : decode cX7_house 90 = .ok (.invokevirtual 148, 3) := by decide +kernel
theorem dX7_house_93 : decode cX7_house 93 = .ok (.ireturn, 1) := by decide +kernel
theorem dX7_longest_0 : decode cX7_longest 0 = .ok (.ldc 151, 2) := by decide +kernel
theorem dX7_longest_2 : decode cX7_longest 2 = .ok (.istore_n 1, 1) := by decide +kernel
theorem dX7_longest_3 : decode cX7_longest 3 = .ok (.iconst (-1), 1) := by decide +kernel
theorem dX7_longest_4 : decode cX7_longest 4 = .ok (.istore_n 2, 1) := by decide +kernel
theorem dX7_longest_5 : decode cX7_longest 5 = .ok (.iconst 0, 1) := by decide +kernel
theorem dX7_longest_6 : decode cX7_longest 6 = .ok (.istore_n 3, 1) := by decide +kernel
theorem dX7_longest_7 : decode cX7_longest 7 = .ok (.iload_n 3, 1) := by decide +kernel
theorem dX7_longest_8 : decode cX7_longest 8 = .ok (.aload_n 0, 1) := by decide +kernel
theorem dX7_longest_9 : decode cX7_longest 9 = .ok (.getfield 38, 3) := by decide +kernel
theorem dX7_longest_12 : decode cX7_longest 12 = .ok (.getfield 84, 3) := by decide +kernel
theorem dX7_longest_15 : decode cX7_longest 15 = .ok (.if_icmp .ge 38, 3) := by decide +kernel
theorem dX7_longest_18 : decode cX7_longest 18 = .ok (.aload_n 0, 1) := by decide +kernel
theorem dX7_longest_19 : decode cX7_longest 19 = .ok (.getfield 38, 3) := by decide +kernel
theorem dX7_longest_22 : decode cX7_longest 22 = .ok (.getfield 100, 3) := by decide +kernel
theorem dX7_longest_25 : decode cX7_longest 25 = .ok (.iconst 5, 1) := by decide +kernel
theorem dX7_longest_26 : decode cX7_longest 26 = .ok (.aaload, 1) := by decide +kernel
theorem dX7_longest_27 : decode cX7_longest 27 = .ok (.iload_n 3, 1) := by decide +kernel
theorem dX7_longest_28 : decode cX7_longest 28 = .ok (.iaload, 1) := by decide +kernel
theorem dX7_longest_29 : decode cX7_longest 29 = .ok (.iload_n 2, 1) := by decide +kernel
theorem dX7_longest_30 : decode cX7_longest 30 = .ok (.if_icmp .le 17, 3) := by decide +kernel
theorem dX7_longest_33 : decode cX7_longest 33 = .ok (.aload_n 0, 1) := by decide +kernel
theorem dX7_longest_34 : decode cX7_longest 34 = .ok (.getfield 38, 3) := by decide +kernel
theorem dX7_longest_37 : decode cX7_longest 37 = .ok (.getfield 100, 3) := by decide +kernel
theorem dX7_longest_40 : decode cX7_longest 40 = .ok (.iconst 5, 1) := by decide +kernel
theorem dX7_longest_41 : decode cX7_longest 41 = .ok (.aaload, 1) := by decide +kernel
theorem dX7_longest_42 : decode cX7_longest 42 = .ok (.iload_n 3, 1) := by decide +kernel
theorem dX7_longest_43 : decode cX7_longest 43 = .ok (.iaload, 1) := by decide +kernel
theorem dX7_longest_44 : decode cX7_longest 44 = .ok (.istore_n 2, 1) := by decide +kernel
theorem dX7_longest_45 : decode cX7_longest 45 = .ok (.iload_n 3, 1) := by decide +kernel
theorem dX7_longest_46 : decode cX7_longest 46 = .ok (.istore_n 1, 1) := by decide +kernel
theorem dX7_longest_47 : decode cX7_longest 47 = .ok (.iinc 3 1, 3) := by decide +kernel
theorem dX7_longest_50 : decode cX7_longest 50 = .ok (.goto (-43), 3) := by decide +kernel
theorem dX7_longest_53 : decode cX7_longest 53 = .ok (.iload_n 1, 1) := by decide +kernel
theorem dX7_longest_54 : decode cX7_longest 54 = .ok (.ireturn, 1) := by decide +kernel
theorem dX7_behind_0 : decode cX7_behind 0 = .ok (.iload_n 1, 1) := by decide +kernel
theorem dX7_behind_1 : decode cX7_behind 1 = .ok (.iconst 0, 1) := by decide +kernel
theorem dX7_behind_2 : decode cX7_behind 2 = .ok (.bipush 100, 2) := by decide +kernel
theorem dX7_behind_4 : decode cX7_behind 4 = .ok (.invokestatic 96, 3) := by decide +kernel
theorem dX7_behind_7 : decode cX7_behind 7 = .ok (.ifCond .eq 22, 3) := by decide +kernel
theorem dX7_behind_10 : decode cX7_behind 10 = .ok (.iload_n 2, 1) := by decide +kernel
theorem dX7_behind_11 : decode cX7_behind 11 = .ok (.ifCond .lt 18, 3) := by decide +kernel
theorem dX7_behind_14 : decode cX7_behind 14 = .ok (.iload_n 2, 1) := by decide +kernel
theorem dX7_behind_15 : decode cX7_behind 15 = .ok (.iconst 2, 1) := by decide +kernel
theorem dX7_behind_16 : decode cX7_behind 16 = .ok (.if_icmp .le 16, 3) := by decide +kernel
theorem dX7_behind_19 : decode cX7_behind 19 = .ok (.aload_n 0, 1) := by decide +kernel
theorem dX7_behind_20 : decode cX7_behind 20 = .ok (.iload_n 2, 1) := by decide +kernel
theorem dX7_behind_21 : decode cX7_behind 21 = .ok (.iconst 3, 1) := by decide +kernel
theorem dX7_behind_22 : decode cX7_behind 22 = .ok (.isub, 1) := by decide +kernel
theorem dX7_behind_23 : decode cX7_behind 23 = .ok (.invokevirtual 92, 3) := by decide +kernel
theorem dX7_behind_26 : decode cX7_behind 26 = .ok (.ifCond .ne 6, 3) := by decide +kernel
theorem dX7_behind_29 : decode cX7_behind 29 = .ok (.ldc 83, 2) := by decide +kernel
theorem dX7_behind_31 : decode cX7_behind 31 = .ok (.ireturn, 1) := by decide +kernel
theorem dX7_behind_32 : decode cX7_behind 32 = .ok (.aload_n 0, 1) := by decide +kernel
theorem dX7_behind_33 : decode cX7_behind 33 = .ok (.getfield 45, 3) := by decide +kernel
theorem dX7_behind_36 : decode cX7_behind 36 = .ok (.aload_n 0, 1) := by decide +kernel
theorem dX7_behind_37 : decode cX7_behind 37 = .ok (.getfield 38, 3) := by decide +kernel
theorem dX7_behind_40 : decode cX7_behind 40 = .ok (.invokevirtual 152, 3) := by decide +kernel
theorem dX7_behind_43 : decode cX7_behind 43 = .ok (.aload_n 0, 1) := by decide +kernel
theorem dX7_behind_44 : decode cX7_behind 44 = .ok (.getfield 45, 3) := by decide +kernel
theorem dX7_behind_47 : decode cX7_behind 47 = .ok (.iload_n 1, 1) := by decide +kernel
theorem dX7_behind_48 : decode cX7_behind 48 = .ok (.invokevirtual 141, 3) := by decide +kernel
theorem dX7_behind_51 : decode cX7_behind 51 = .ok (.pop, 1) := by decide +kernel
theorem dX7_behind_52 : decode cX7_behind 52 = .ok (.iload_n 2, 1) := by decide +kernel
theorem dX7_behind_53 : decode cX7_behind 53 = .ok (.tableswitch 57 0 2 #[27, 37, 47], 27) := by decide +kernel
theorem dX7_behind_80 : decode cX7_behind 80 = .ok (.aload_n 0, 1) := by decide +kernel
theorem dX7_behind_81 : decode cX7_behind 81 = .ok (.getfield 45, 3) := by decide +kernel
theorem dX7_behind_84 : decode cX7_behind 84 = .ok (.bipush 7, 2) := by decide +kernel
theorem dX7_behind_86 : decode cX7_behind 86 = .ok (.invokevirtual 145, 3) := by decide +kernel
theorem dX7_behind_89 : decode cX7_behind 89 = .ok (.ireturn, 1) := by decide +kernel
theorem dX7_behind_90 : decode cX7_behind 90 = .ok (.aload_n 0, 1) := by decide +kernel
theorem dX7_behind_91 : decode cX7_behind 91 = .ok (.getfield 45, 3) := by decide +kernel
theorem dX7_behind_94 : decode cX7_behind 94 = .ok (.bipush 6, 2) := by decide +kernel
theorem dX7_behind_96 : decode cX7_behind 96 = .ok (.invokevirtual 145, 3) := by decide +kernel
theorem dX7_behind_99 : decode cX7_behind 99 = .ok (.ireturn, 1) := by decide +kernel
theorem dX7_behind_100 : decode cX7_behind 100 = .ok (.aload_n 0, 1) := by decide +kernel
theorem dX7_behind_101 : decode cX7_behind 101 = .ok (.getfield 45, 3) := by decide +kernel
theorem dX7_behind_104 : decode cX7_behind 104 = .ok (.bipush 8, 2) := by decide +kernel
theorem dX7_behind_106 : decode cX7_behind 106 = .ok (.invokevirtual 145, 3) := by decide +kernel
theorem dX7_behind_109 : decode cX7_behind 109 = .ok (.ireturn, 1) := by decide +kernel
theorem dX7_behind_110 : decode cX7_behind 110 = .ok (.aload_n 0, 1) := by decide +kernel
theorem dX7_behind_111 : decode cX7_behind 111 = .ok (.getfield 45, 3) := by decide +kernel
theorem dX7_behind_114 : decode cX7_behind 114 = .ok (.getfield 100, 3) := by decide +kernel
theorem dX7_behind_117 : decode cX7_behind 117 = .ok (.bipush 6, 2) := by decide +kernel
theorem dX7_behind_119 : decode cX7_behind 119 = .ok (.aaload, 1) := by decide +kernel
theorem dX7_behind_120 : decode cX7_behind 120 = .ok (.iload_n 2, 1) := by decide +kernel
theorem dX7_behind_121 : decode cX7_behind 121 = .ok (.iconst 3, 1) := by decide +kernel
theorem dX7_behind_122 : decode cX7_behind 122 = .ok (.isub, 1) := by decide +kernel
theorem dX7_behind_123 : decode cX7_behind 123 = .ok (.iaload, 1) := by decide +kernel
theorem dX7_behind_124 : decode cX7_behind 124 = .ok (.ireturn, 1) := by decide +kernel
theorem dX7_bestLaw_0 : decode cX7_bestLaw 0 = .ok (.iload_n 1, 1) := by decide +kernel
theorem dX7_bestLaw_1 : decode cX7_bestLaw 1 = .ok (.iconst 1, 1) := by decide +kernel
theorem dX7_bestLaw_2 : decode cX7_bestLaw 2 = .ok (.bipush 60, 2) := by decide +kernel
theorem dX7_bestLaw_4 : decode cX7_bestLaw 4 = .ok (.invokestatic 96, 3) := by decide +kernel
theorem dX7_bestLaw_7 : decode cX7_bestLaw 7 = .ok (.ifCond .eq 12, 3) := by decide +kernel
theorem dX7_bestLaw_10 : decode cX7_bestLaw 10 = .ok (.iload_n 2, 1) := by decide +kernel
theorem dX7_bestLaw_11 : decode cX7_bestLaw 11 = .ok (.iconst 0, 1) := by decide +kernel
theorem dX7_bestLaw_12 : decode cX7_bestLaw 12 = .ok (.iconst 1, 1) := by decide +kernel
theorem dX7_bestLaw_13 : decode cX7_bestLaw 13 = .ok (.invokestatic 96, 3) := by decide +kernel
theorem dX7_bestLaw_16 : decode cX7_bestLaw 16 = .ok (.ifCond .ne 6, 3) := by decide +kernel
theorem dX7_bestLaw_19 : decode cX7_bestLaw 19 = .ok (.ldc 83, 2) := by decide +kernel
theorem dX7_bestLaw_21 : decode cX7_bestLaw 21 = .ok (.ireturn, 1) := by decide +kernel
theorem dX7_bestLaw_22 : decode cX7_bestLaw 22 = .ok (.aload_n 0, 1) := by decide +kernel
theorem dX7_bestLaw_23 : decode cX7_bestLaw 23 = .ok (.getfield 55, 3) := by decide +kernel
theorem dX7_bestLaw_26 : decode cX7_bestLaw 26 = .ok (.invokevirtual 156, 3) := by decide +kernel
theorem dX7_bestLaw_29 : decode cX7_bestLaw 29 = .ok (.iconst 0, 1) := by decide +kernel
theorem dX7_bestLaw_30 : decode cX7_bestLaw 30 = .ok (.istore_n 3, 1) := by decide +kernel
theorem dX7_bestLaw_31 : decode cX7_bestLaw 31 = .ok (.iload_n 3, 1) := by decide +kernel
theorem dX7_bestLaw_32 : decode cX7_bestLaw 32 = .ok (.iconst 3, 1) := by decide +kernel
theorem dX7_bestLaw_33 : decode cX7_bestLaw 33 = .ok (.if_icmp .gt 54, 3) := by decide +kernel
theorem dX7_bestLaw_36 : decode cX7_bestLaw 36 = .ok (.aload_n 0, 1) := by decide +kernel
theorem dX7_bestLaw_37 : decode cX7_bestLaw 37 = .ok (.getfield 45, 3) := by decide +kernel
theorem dX7_bestLaw_40 : decode cX7_bestLaw 40 = .ok (.aload_n 0, 1) := by decide +kernel
theorem dX7_bestLaw_41 : decode cX7_bestLaw 41 = .ok (.getfield 38, 3) := by decide +kernel
theorem dX7_bestLaw_44 : decode cX7_bestLaw 44 = .ok (.invokevirtual 152, 3) := by decide +kernel
theorem dX7_bestLaw_47 : decode cX7_bestLaw 47 = .ok (.aload_n 0, 1) := by decide +kernel
theorem dX7_bestLaw_48 : decode cX7_bestLaw 48 = .ok (.getfield 45, 3) := by decide +kernel
theorem dX7_bestLaw_51 : decode cX7_bestLaw 51 = .ok (.iload_n 3, 1) := by decide +kernel
theorem dX7_bestLaw_52 : decode cX7_bestLaw 52 = .ok (.putfield 120, 3) := by decide +kernel
theorem dX7_bestLaw_55 : decode cX7_bestLaw 55 = .ok (.aload_n 0, 1) := by decide +kernel
theorem dX7_bestLaw_56 : decode cX7_bestLaw 56 = .ok (.getfield 45, 3) := by decide +kernel
theorem dX7_bestLaw_59 : decode cX7_bestLaw 59 = .ok (.iload_n 1, 1) := by decide +kernel
theorem dX7_bestLaw_60 : decode cX7_bestLaw 60 = .ok (.invokevirtual 141, 3) := by decide +kernel
theorem dX7_bestLaw_63 : decode cX7_bestLaw 63 = .ok (.pop, 1) := by decide +kernel
theorem dX7_bestLaw_64 : decode cX7_bestLaw 64 = .ok (.aload_n 0, 1) := by decide +kernel
theorem dX7_bestLaw_65 : decode cX7_bestLaw 65 = .ok (.getfield 55, 3) := by decide +kernel
theorem dX7_bestLaw_68 : decode cX7_bestLaw 68 = .ok (.iload_n 3, 1) := by decide +kernel
theorem dX7_bestLaw_69 : decode cX7_bestLaw 69 = .ok (.aload_n 0, 1) := by decide +kernel
theorem dX7_bestLaw_70 : decode cX7_bestLaw 70 = .ok (.getfield 45, 3) := by decide +kernel
theorem dX7_bestLaw_73 : decode cX7_bestLaw 73 = .ok (.bipush 7, 2) := by decide +kernel
theorem dX7_bestLaw_75 : decode cX7_bestLaw 75 = .ok (.invokevirtual 145, 3) := by decide +kernel
theorem dX7_bestLaw_78 : decode cX7_bestLaw 78 = .ok (.invokevirtual 159, 3) := by decide +kernel
theorem dX7_bestLaw_81 : decode cX7_bestLaw 81 = .ok (.iinc 3 1, 3) := by decide +kernel
theorem dX7_bestLaw_84 : decode cX7_bestLaw 84 = .ok (.goto (-53), 3) := by decide +kernel
theorem dX7_bestLaw_87 : decode cX7_bestLaw 87 = .ok (.iload_n 2, 1) := by decide +kernel
theorem dX7_bestLaw_88 : decode cX7_bestLaw 88 = .ok (.ifCond .ne 13, 3) := by decide +kernel
theorem dX7_bestLaw_91 : decode cX7_bestLaw 91 = .ok (.aload_n 0, 1) := by decide +kernel
theorem dX7_bestLaw_92 : decode cX7_bestLaw 92 = .ok (.getfield 55, 3) := by decide +kernel
theorem dX7_bestLaw_95 : decode cX7_bestLaw 95 = .ok (.getfield 163, 3) := by decide +kernel
theorem dX7_bestLaw_98 : decode cX7_bestLaw 98 = .ok (.goto 10, 3) := by decide +kernel
theorem dX7_bestLaw_101 : decode cX7_bestLaw 101 = .ok (.aload_n 0, 1) := by decide +kernel
theorem dX7_bestLaw_102 : decode cX7_bestLaw 102 = .ok (.getfield 55, 3) := by decide +kernel
theorem dX7_bestLaw_105 : decode cX7_bestLaw 105 = .ok (.getfield 166, 3) := by decide +kernel
theorem dX7_bestLaw_108 : decode cX7_bestLaw 108 = .ok (.ireturn, 1) := by decide +kernel
theorem dX7_bedtime_0 : decode cX7_bedtime 0 = .ok (.aload_n 0, 1) := by decide +kernel
theorem dX7_bedtime_1 : decode cX7_bedtime 1 = .ok (.iload_n 1, 1) := by decide +kernel
theorem dX7_bedtime_2 : decode cX7_bedtime 2 = .ok (.invokevirtual 92, 3) := by decide +kernel
theorem dX7_bedtime_5 : decode cX7_bedtime 5 = .ok (.ifCond .eq 22, 3) := by decide +kernel
theorem dX7_bedtime_8 : decode cX7_bedtime 8 = .ok (.iload_n 2, 1) := by decide +kernel
theorem dX7_bedtime_9 : decode cX7_bedtime 9 = .ok (.iconst 1, 1) := by decide +kernel
theorem dX7_bedtime_10 : decode cX7_bedtime 10 = .ok (.bipush 40, 2) := by decide +kernel
theorem dX7_bedtime_12 : decode cX7_bedtime 12 = .ok (.invokestatic 96, 3) := by decide +kernel
theorem dX7_bedtime_15 : decode cX7_bedtime 15 = .ok (.ifCond .eq 12, 3) := by decide +kernel
theorem dX7_bedtime_18 : decode cX7_bedtime 18 = .ok (.iload_n 3, 1) := by decide +kernel
theorem dX7_bedtime_19 : decode cX7_bedtime 19 = .ok (.iconst 0, 1) := by decide +kernel
theorem dX7_bedtime_20 : decode cX7_bedtime 20 = .ok (.iconst 1, 1) := by decide +kernel
theorem dX7_bedtime_21 : decode cX7_bedtime 21 = .ok (.invokestatic 96, 3) := by decide +kernel
theorem dX7_bedtime_24 : decode cX7_bedtime 24 = .ok (.ifCond .ne 6, 3) := by decide +kernel
theorem dX7_bedtime_27 : decode cX7_bedtime 27 = .ok (.ldc 83, 2) := by decide +kernel
theorem dX7_bedtime_29 : decode cX7_bedtime 29 = .ok (.ireturn, 1) := by decide +kernel
theorem dX7_bedtime_30 : decode cX7_bedtime 30 = .ok (.aload_n 0, 1) := by decide +kernel
theorem dX7_bedtime_31 : decode cX7_bedtime 31 = .ok (.getfield 55, 3) := by decide +kernel
theorem dX7_bedtime_34 : decode cX7_bedtime 34 = .ok (.invokevirtual 156, 3) := by decide +kernel
theorem dX7_bedtime_37 : decode cX7_bedtime 37 = .ok (.iconst 0, 1) := by decide +kernel
theorem dX7_bedtime_38 : decode cX7_bedtime 38 = .ok (.istore 4, 2) := by decide +kernel
theorem dX7_bedtime_40 : decode cX7_bedtime 40 = .ok (.iload 4, 2) := by decide +kernel
theorem dX7_bedtime_42 : decode cX7_bedtime 42 = .ok (.sipush 580, 3) := by decide +kernel
theorem dX7_bedtime_45 : decode cX7_bedtime 45 = .ok (.if_icmp .gt 60, 3) := by decide +kernel
theorem dX7_bedtime_48 : decode cX7_bedtime 48 = .ok (.aload_n 0, 1) := by decide +kernel
theorem dX7_bedtime_49 : decode cX7_bedtime 49 = .ok (.iload_n 1, 1) := by decide +kernel
theorem dX7_bedtime_50 : decode cX7_bedtime 50 = .ok (.iconst 2, 1) := by decide +kernel
theorem dX7_bedtime_51 : decode cX7_bedtime 51 = .ok (.iload 4, 2) := by decide +kernel
theorem dX7_bedtime_53 : decode cX7_bedtime 53 = .ok (.invokevirtual 169, 3) := by decide +kernel
theorem dX7_bedtime_56 : decode cX7_bedtime 56 = .ok (.aload_n 0, 1) := by decide +kernel
theorem dX7_bedtime_57 : decode cX7_bedtime 57 = .ok (.getfield 45, 3) := by decide +kernel
theorem dX7_bedtime_60 : decode cX7_bedtime 60 = .ok (.iload_n 2, 1) := by decide +kernel
theorem dX7_bedtime_61 : decode cX7_bedtime 61 = .ok (.invokevirtual 141, 3) := by decide +kernel
theorem dX7_bedtime_64 : decode cX7_bedtime 64 = .ok (.pop, 1) := by decide +kernel
theorem dX7_bedtime_65 : decode cX7_bedtime 65 = .ok (.aload_n 0, 1) := by decide +kernel
theorem dX7_bedtime_66 : decode cX7_bedtime 66 = .ok (.getfield 55, 3) := by decide +kernel
theorem dX7_bedtime_69 : decode cX7_bedtime 69 = .ok (.iload 4, 2) := by decide +kernel
theorem dX7_bedtime_71 : decode cX7_bedtime 71 = .ok (.aload_n 0, 1) := by decide +kernel
theorem dX7_bedtime_72 : decode cX7_bedtime 72 = .ok (.getfield 45, 3) := by decide +kernel
theorem dX7_bedtime_75 : decode cX7_bedtime 75 = .ok (.getfield 100, 3) := by decide +kernel
theorem dX7_bedtime_78 : decode cX7_bedtime 78 = .ok (.bipush 7, 2) := by decide +kernel
theorem dX7_bedtime_80 : decode cX7_bedtime 80 = .ok (.aaload, 1) := by decide +kernel
theorem dX7_bedtime_81 : decode cX7_bedtime 81 = .ok (.iload_n 1, 1) := by decide +kernel
theorem dX7_bedtime_82 : decode cX7_bedtime 82 = .ok (.iaload, 1) := by decide +kernel
theorem dX7_bedtime_83 : decode cX7_bedtime 83 = .ok (.aload_n 0, 1) := by decide +kernel
theorem dX7_bedtime_84 : decode cX7_bedtime 84 = .ok (.getfield 45, 3) := by decide +kernel
theorem dX7_bedtime_87 : decode cX7_bedtime 87 = .ok (.getfield 100, 3) := by decide +kernel
theorem dX7_bedtime_90 : decode cX7_bedtime 90 = .ok (.bipush 6, 2) := by decide +kernel
theorem dX7_bedtime_92 : decode cX7_bedtime 92 = .ok (.aaload, 1) := by decide +kernel
theorem dX7_bedtime_93 : decode cX7_bedtime 93 = .ok (.iload_n 1, 1) := by decide +kernel
theorem dX7_bedtime_94 : decode cX7_bedtime 94 = .ok (.iaload, 1) := by decide +kernel
theorem dX7_bedtime_95 : decode cX7_bedtime 95 = .ok (.iadd, 1) := by decide +kernel
theorem dX7_bedtime_96 : decode cX7_bedtime 96 = .ok (.invokevirtual 159, 3) := by decide +kernel
theorem dX7_bedtime_99 : decode cX7_bedtime 99 = .ok (.iinc 4 20, 3) := by decide +kernel
theorem dX7_bedtime_102 : decode cX7_bedtime 102 = .ok (.goto (-62), 3) := by decide +kernel
theorem dX7_bedtime_105 : decode cX7_bedtime 105 = .ok (.iload_n 3, 1) := by decide +kernel
theorem dX7_bedtime_106 : decode cX7_bedtime 106 = .ok (.ifCond .ne 13, 3) := by decide +kernel
theorem dX7_bedtime_109 : decode cX7_bedtime 109 = .ok (.aload_n 0, 1) := by decide +kernel
theorem dX7_bedtime_110 : decode cX7_bedtime 110 = .ok (.getfield 55, 3) := by decide +kernel
theorem dX7_bedtime_113 : decode cX7_bedtime 113 = .ok (.getfield 163, 3) := by decide +kernel
theorem dX7_bedtime_116 : decode cX7_bedtime 116 = .ok (.goto 10, 3) := by decide +kernel
theorem dX7_bedtime_119 : decode cX7_bedtime 119 = .ok (.aload_n 0, 1) := by decide +kernel
theorem dX7_bedtime_120 : decode cX7_bedtime 120 = .ok (.getfield 55, 3) := by decide +kernel
theorem dX7_bedtime_123 : decode cX7_bedtime 123 = .ok (.getfield 166, 3) := by decide +kernel
theorem dX7_bedtime_126 : decode cX7_bedtime 126 = .ok (.ireturn, 1) := by decide +kernel
theorem dX7_wrong_0 : decode cX7_wrong 0 = .ok (.aload_n 0, 1) := by decide +kernel
theorem dX7_wrong_1 : decode cX7_wrong 1 = .ok (.iload_n 1, 1) := by decide +kernel
theorem dX7_wrong_2 : decode cX7_wrong 2 = .ok (.invokevirtual 92, 3) := by decide +kernel
theorem dX7_wrong_5 : decode cX7_wrong 5 = .ok (.ifCond .eq 22, 3) := by decide +kernel
theorem dX7_wrong_8 : decode cX7_wrong 8 = .ok (.iload_n 2, 1) := by decide +kernel
theorem dX7_wrong_9 : decode cX7_wrong 9 = .ok (.iconst 1, 1) := by decide +kernel
theorem dX7_wrong_10 : decode cX7_wrong 10 = .ok (.bipush 40, 2) := by decide +kernel
theorem dX7_wrong_12 : decode cX7_wrong 12 = .ok (.invokestatic 96, 3) := by decide +kernel
theorem dX7_wrong_15 : decode cX7_wrong 15 = .ok (.ifCond .eq 12, 3) := by decide +kernel
theorem dX7_wrong_18 : decode cX7_wrong 18 = .ok (.iload_n 3, 1) := by decide +kernel
theorem dX7_wrong_19 : decode cX7_wrong 19 = .ok (.iconst 0, 1) := by decide +kernel
theorem dX7_wrong_20 : decode cX7_wrong 20 = .ok (.iconst 1, 1) := by decide +kernel
theorem dX7_wrong_21 : decode cX7_wrong 21 = .ok (.invokestatic 96, 3) := by decide +kernel
theorem dX7_wrong_24 : decode cX7_wrong 24 = .ok (.ifCond .ne 6, 3) := by decide +kernel
theorem dX7_wrong_27 : decode cX7_wrong 27 = .ok (.ldc 83, 2) := by decide +kernel
theorem dX7_wrong_29 : decode cX7_wrong 29 = .ok (.ireturn, 1) := by decide +kernel
theorem dX7_wrong_30 : decode cX7_wrong 30 = .ok (.aload_n 0, 1) := by decide +kernel
theorem dX7_wrong_31 : decode cX7_wrong 31 = .ok (.getfield 55, 3) := by decide +kernel
theorem dX7_wrong_34 : decode cX7_wrong 34 = .ok (.invokevirtual 156, 3) := by decide +kernel
theorem dX7_wrong_37 : decode cX7_wrong 37 = .ok (.iconst 0, 1) := by decide +kernel
theorem dX7_wrong_38 : decode cX7_wrong 38 = .ok (.istore 4, 2) := by decide +kernel
theorem dX7_wrong_40 : decode cX7_wrong 40 = .ok (.iload 4, 2) := by decide +kernel
theorem dX7_wrong_42 : decode cX7_wrong 42 = .ok (.getstatic 173, 3) := by decide +kernel
theorem dX7_wrong_45 : decode cX7_wrong 45 = .ok (.iconst 3, 1) := by decide +kernel
theorem dX7_wrong_46 : decode cX7_wrong 46 = .ok (.iaload, 1) := by decide +kernel
theorem dX7_wrong_47 : decode cX7_wrong 47 = .ok (.if_icmp .gt 28, 3) := by decide +kernel
theorem dX7_wrong_50 : decode cX7_wrong 50 = .ok (.aload_n 0, 1) := by decide +kernel
theorem dX7_wrong_51 : decode cX7_wrong 51 = .ok (.iload_n 1, 1) := by decide +kernel
theorem dX7_wrong_52 : decode cX7_wrong 52 = .ok (.iconst 3, 1) := by decide +kernel
theorem dX7_wrong_53 : decode cX7_wrong 53 = .ok (.iload 4, 2) := by decide +kernel
theorem dX7_wrong_55 : decode cX7_wrong 55 = .ok (.ineg, 1) := by decide +kernel
theorem dX7_wrong_56 : decode cX7_wrong 56 = .ok (.iload_n 2, 1) := by decide +kernel
theorem dX7_wrong_57 : decode cX7_wrong 57 = .ok (.invokevirtual 176, 3) := by decide +kernel
theorem dX7_wrong_60 : decode cX7_wrong 60 = .ok (.aload_n 0, 1) := by decide +kernel
theorem dX7_wrong_61 : decode cX7_wrong 61 = .ok (.iload_n 1, 1) := by decide +kernel
theorem dX7_wrong_62 : decode cX7_wrong 62 = .ok (.iconst 3, 1) := by decide +kernel
theorem dX7_wrong_63 : decode cX7_wrong 63 = .ok (.iload 4, 2) := by decide +kernel
theorem dX7_wrong_65 : decode cX7_wrong 65 = .ok (.iload_n 2, 1) := by decide +kernel
theorem dX7_wrong_66 : decode cX7_wrong 66 = .ok (.invokevirtual 176, 3) := by decide +kernel
theorem dX7_wrong_69 : decode cX7_wrong 69 = .ok (.iinc 4 10, 3) := by decide +kernel
theorem dX7_wrong_72 : decode cX7_wrong 72 = .ok (.goto (-32), 3) := by decide +kernel
theorem dX7_wrong_75 : decode cX7_wrong 75 = .ok (.iload_n 3, 1) := by decide +kernel
theorem dX7_wrong_76 : decode cX7_wrong 76 = .ok (.ifCond .ne 13, 3) := by decide +kernel
theorem dX7_wrong_79 : decode cX7_wrong 79 = .ok (.aload_n 0, 1) := by decide +kernel
theorem dX7_wrong_80 : decode cX7_wrong 80 = .ok (.getfield 55, 3) := by decide +kernel
theorem dX7_wrong_83 : decode cX7_wrong 83 = .ok (.getfield 163, 3) := by decide +kernel
theorem dX7_wrong_86 : decode cX7_wrong 86 = .ok (.goto 10, 3) := by decide +kernel
theorem dX7_wrong_89 : decode cX7_wrong 89 = .ok (.aload_n 0, 1) := by decide +kernel
theorem dX7_wrong_90 : decode cX7_wrong 90 = .ok (.getfield 55, 3) := by decide +kernel
theorem dX7_wrong_93 : decode cX7_wrong 93 = .ok (.getfield 166, 3) := by decide +kernel
theorem dX7_wrong_96 : decode cX7_wrong 96 = .ok (.ireturn, 1) := by decide +kernel
theorem dX7_moved_0 : decode cX7_moved 0 = .ok (.aload_n 0, 1) := by decide +kernel
theorem dX7_moved_1 : decode cX7_moved 1 = .ok (.iload_n 1, 1) := by decide +kernel
theorem dX7_moved_2 : decode cX7_moved 2 = .ok (.invokevirtual 92, 3) := by decide +kernel
theorem dX7_moved_5 : decode cX7_moved 5 = .ok (.ifCond .eq 22, 3) := by decide +kernel
theorem dX7_moved_8 : decode cX7_moved 8 = .ok (.iload_n 2, 1) := by decide +kernel
theorem dX7_moved_9 : decode cX7_moved 9 = .ok (.iconst 1, 1) := by decide +kernel
theorem dX7_moved_10 : decode cX7_moved 10 = .ok (.bipush 60, 2) := by decide +kernel
theorem dX7_moved_12 : decode cX7_moved 12 = .ok (.invokestatic 96, 3) := by decide +kernel
theorem dX7_moved_15 : decode cX7_moved 15 = .ok (.ifCond .eq 12, 3) := by decide +kernel
theorem dX7_moved_18 : decode cX7_moved 18 = .ok (.iload_n 3, 1) := by decide +kernel
theorem dX7_moved_19 : decode cX7_moved 19 = .ok (.iconst 0, 1) := by decide +kernel
theorem dX7_moved_20 : decode cX7_moved 20 = .ok (.iconst 1, 1) := by decide +kernel
theorem dX7_moved_21 : decode cX7_moved 21 = .ok (.invokestatic 96, 3) := by decide +kernel
theorem dX7_moved_24 : decode cX7_moved 24 = .ok (.ifCond .ne 6, 3) := by decide +kernel
theorem dX7_moved_27 : decode cX7_moved 27 = .ok (.ldc 83, 2) := by decide +kernel
theorem dX7_moved_29 : decode cX7_moved 29 = .ok (.ireturn, 1) := by decide +kernel
theorem dX7_moved_30 : decode cX7_moved 30 = .ok (.aload_n 0, 1) := by decide +kernel
theorem dX7_moved_31 : decode cX7_moved 31 = .ok (.getfield 55, 3) := by decide +kernel
theorem dX7_moved_34 : decode cX7_moved 34 = .ok (.invokevirtual 156, 3) := by decide +kernel
theorem dX7_moved_37 : decode cX7_moved 37 = .ok (.iconst 0, 1) := by decide +kernel
theorem dX7_moved_38 : decode cX7_moved 38 = .ok (.istore 4, 2) := by decide +kernel
theorem dX7_moved_40 : decode cX7_moved 40 = .ok (.iload 4, 2) := by decide +kernel
theorem dX7_moved_42 : decode cX7_moved 42 = .ok (.iconst 3, 1) := by decide +kernel
theorem dX7_moved_43 : decode cX7_moved 43 = .ok (.if_icmp .ge 18, 3) := by decide +kernel
theorem dX7_moved_46 : decode cX7_moved 46 = .ok (.aload_n 0, 1) := by decide +kernel
theorem dX7_moved_47 : decode cX7_moved 47 = .ok (.iload_n 1, 1) := by decide +kernel
theorem dX7_moved_48 : decode cX7_moved 48 = .ok (.iconst 1, 1) := by decide +kernel
theorem dX7_moved_49 : decode cX7_moved 49 = .ok (.iload 4, 2) := by decide +kernel
theorem dX7_moved_51 : decode cX7_moved 51 = .ok (.iload_n 2, 1) := by decide +kernel
theorem dX7_moved_52 : decode cX7_moved 52 = .ok (.invokevirtual 176, 3) := by decide +kernel
theorem dX7_moved_55 : decode cX7_moved 55 = .ok (.iinc 4 1, 3) := by decide +kernel
theorem dX7_moved_58 : decode cX7_moved 58 = .ok (.goto (-18), 3) := by decide +kernel
theorem dX7_moved_61 : decode cX7_moved 61 = .ok (.iload_n 3, 1) := by decide +kernel
theorem dX7_moved_62 : decode cX7_moved 62 = .ok (.ifCond .ne 13, 3) := by decide +kernel
theorem dX7_moved_65 : decode cX7_moved 65 = .ok (.aload_n 0, 1) := by decide +kernel
theorem dX7_moved_66 : decode cX7_moved 66 = .ok (.getfield 55, 3) := by decide +kernel
theorem dX7_moved_69 : decode cX7_moved 69 = .ok (.getfield 163, 3) := by decide +kernel
theorem dX7_moved_72 : decode cX7_moved 72 = .ok (.goto 10, 3) := by decide +kernel
theorem dX7_moved_75 : decode cX7_moved 75 = .ok (.aload_n 0, 1) := by decide +kernel
theorem dX7_moved_76 : decode cX7_moved 76 = .ok (.getfield 55, 3) := by decide +kernel
theorem dX7_moved_79 : decode cX7_moved 79 = .ok (.getfield 166, 3) := by decide +kernel
theorem dX7_moved_82 : decode cX7_moved 82 = .ok (.ireturn, 1) := by decide +kernel
theorem dX7_dark_0 : decode cX7_dark 0 = .ok (.aload_n 0, 1) := by decide +kernel
theorem dX7_dark_1 : decode cX7_dark 1 = .ok (.getfield 45, 3) := by decide +kernel
theorem dX7_dark_4 : decode cX7_dark 4 = .ok (.aload_n 0, 1) := by decide +kernel
theorem dX7_dark_5 : decode cX7_dark 5 = .ok (.getfield 38, 3) := by decide +kernel
theorem dX7_dark_8 : decode cX7_dark 8 = .ok (.invokevirtual 152, 3) := by decide +kernel
theorem dX7_dark_11 : decode cX7_dark 11 = .ok (.aload_n 0, 1) := by decide +kernel
theorem dX7_dark_12 : decode cX7_dark 12 = .ok (.getfield 45, 3) := by decide +kernel
theorem dX7_dark_15 : decode cX7_dark 15 = .ok (.iconst 2, 1) := by decide +kernel
theorem dX7_dark_16 : decode cX7_dark 16 = .ok (.invokevirtual 145, 3) := by decide +kernel
theorem dX7_dark_19 : decode cX7_dark 19 = .ok (.iconst 2, 1) := by decide +kernel
theorem dX7_dark_20 : decode cX7_dark 20 = .ok (.idiv, 1) := by decide +kernel
theorem dX7_dark_21 : decode cX7_dark 21 = .ok (.istore_n 1, 1) := by decide +kernel
theorem dX7_dark_22 : decode cX7_dark 22 = .ok (.iconst 1, 1) := by decide +kernel
theorem dX7_dark_23 : decode cX7_dark 23 = .ok (.istore_n 2, 1) := by decide +kernel
theorem dX7_dark_24 : decode cX7_dark 24 = .ok (.iload_n 2, 1) := by decide +kernel
theorem dX7_dark_25 : decode cX7_dark 25 = .ok (.sipush 200, 3) := by decide +kernel
theorem dX7_dark_28 : decode cX7_dark 28 = .ok (.if_icmp .gt 31, 3) := by decide +kernel
theorem dX7_dark_31 : decode cX7_dark 31 = .ok (.aload_n 0, 1) := by decide +kernel
theorem dX7_dark_32 : decode cX7_dark 32 = .ok (.getfield 45, 3) := by decide +kernel
theorem dX7_dark_35 : decode cX7_dark 35 = .ok (.invokevirtual 180, 3) := by decide +kernel
theorem dX7_dark_38 : decode cX7_dark 38 = .ok (.pop, 1) := by decide +kernel
theorem dX7_dark_39 : decode cX7_dark 39 = .ok (.aload_n 0, 1) := by decide +kernel
theorem dX7_dark_40 : decode cX7_dark 40 = .ok (.getfield 45, 3) := by decide +kernel
theorem dX7_dark_43 : decode cX7_dark 43 = .ok (.iconst 5, 1) := by decide +kernel
theorem dX7_dark_44 : decode cX7_dark 44 = .ok (.invokevirtual 145, 3) := by decide +kernel
theorem dX7_dark_47 : decode cX7_dark 47 = .ok (.iload_n 1, 1) := by decide +kernel
theorem dX7_dark_48 : decode cX7_dark 48 = .ok (.if_icmp .ge 5, 3) := by decide +kernel
theorem dX7_dark_51 : decode cX7_dark 51 = .ok (.iload_n 2, 1) := by decide +kernel
theorem dX7_dark_52 : decode cX7_dark 52 = .ok (.ireturn, 1) := by decide +kernel
theorem dX7_dark_53 : decode cX7_dark 53 = .ok (.iinc 2 1, 3) := by decide +kernel
theorem dX7_dark_56 : decode cX7_dark 56 = .ok (.goto (-32), 3) := by decide +kernel
theorem dX7_dark_59 : decode cX7_dark 59 = .ok (.ldc 151, 2) := by decide +kernel
theorem dX7_dark_61 : decode cX7_dark 61 = .ok (.ireturn, 1) := by decide +kernel
theorem dX7_wished_0 : decode cX7_wished 0 = .ok (.iload_n 1, 1) := by decide +kernel
theorem dX7_wished_1 : decode cX7_wished 1 = .ok (.invokestatic 183, 3) := by decide +kernel
theorem dX7_wished_4 : decode cX7_wished 4 = .ok (.ifCond .eq 20, 3) := by decide +kernel
theorem dX7_wished_7 : decode cX7_wished 7 = .ok (.aload_n 0, 1) := by decide +kernel
theorem dX7_wished_8 : decode cX7_wished 8 = .ok (.iload_n 2, 1) := by decide +kernel
theorem dX7_wished_9 : decode cX7_wished 9 = .ok (.invokevirtual 92, 3) := by decide +kernel
theorem dX7_wished_12 : decode cX7_wished 12 = .ok (.ifCond .eq 12, 3) := by decide +kernel
theorem dX7_wished_15 : decode cX7_wished 15 = .ok (.iload_n 3, 1) := by decide +kernel
theorem dX7_wished_16 : decode cX7_wished 16 = .ok (.iconst 0, 1) := by decide +kernel
theorem dX7_wished_17 : decode cX7_wished 17 = .ok (.iconst 1, 1) := by decide +kernel
theorem dX7_wished_18 : decode cX7_wished 18 = .ok (.invokestatic 96, 3) := by decide +kernel
theorem dX7_wished_21 : decode cX7_wished 21 = .ok (.ifCond .ne 6, 3) := by decide +kernel
theorem dX7_wished_24 : decode cX7_wished 24 = .ok (.ldc 83, 2) := by decide +kernel
theorem dX7_wished_26 : decode cX7_wished 26 = .ok (.ireturn, 1) := by decide +kernel
theorem dX7_wished_27 : decode cX7_wished 27 = .ok (.aload_n 0, 1) := by decide +kernel
theorem dX7_wished_28 : decode cX7_wished 28 = .ok (.getfield 67, 3) := by decide +kernel
theorem dX7_wished_31 : decode cX7_wished 31 = .ok (.iload_n 1, 1) := by decide +kernel
theorem dX7_wished_32 : decode cX7_wished 32 = .ok (.aaload, 1) := by decide +kernel
theorem dX7_wished_33 : decode cX7_wished 33 = .ok (.getfield 186, 3) := by decide +kernel
theorem dX7_wished_36 : decode cX7_wished 36 = .ok (.iconst (-1), 1) := by decide +kernel
theorem dX7_wished_37 : decode cX7_wished 37 = .ok (.if_icmp .ne 6, 3) := by decide +kernel
theorem dX7_wished_40 : decode cX7_wished 40 = .ok (.ldc 189, 2) := by decide +kernel
theorem dX7_wished_42 : decode cX7_wished 42 = .ok (.ireturn, 1) := by decide +kernel
theorem dX7_wished_43 : decode cX7_wished 43 = .ok (.aload_n 0, 1) := by decide +kernel
theorem dX7_wished_44 : decode cX7_wished 44 = .ok (.getfield 55, 3) := by decide +kernel
theorem dX7_wished_47 : decode cX7_wished 47 = .ok (.invokevirtual 156, 3) := by decide +kernel
theorem dX7_wished_50 : decode cX7_wished 50 = .ok (.iconst 0, 1) := by decide +kernel
theorem dX7_wished_51 : decode cX7_wished 51 = .ok (.istore 4, 2) := by decide +kernel
theorem dX7_wished_53 : decode cX7_wished 53 = .ok (.iload 4, 2) := by decide +kernel
theorem dX7_wished_55 : decode cX7_wished 55 = .ok (.sipush 580, 3) := by decide +kernel
theorem dX7_wished_58 : decode cX7_wished 58 = .ok (.if_icmp .gt 38, 3) := by decide +kernel
theorem dX7_wished_61 : decode cX7_wished 61 = .ok (.aload_n 0, 1) := by decide +kernel
theorem dX7_wished_62 : decode cX7_wished 62 = .ok (.iload_n 2, 1) := by decide +kernel
theorem dX7_wished_63 : decode cX7_wished 63 = .ok (.iconst 2, 1) := by decide +kernel
theorem dX7_wished_64 : decode cX7_wished 64 = .ok (.iload 4, 2) := by decide +kernel
theorem dX7_wished_66 : decode cX7_wished 66 = .ok (.invokevirtual 169, 3) := by decide +kernel
theorem dX7_wished_69 : decode cX7_wished 69 = .ok (.aload_n 0, 1) := by decide +kernel
theorem dX7_wished_70 : decode cX7_wished 70 = .ok (.getfield 55, 3) := by decide +kernel
theorem dX7_wished_73 : decode cX7_wished 73 = .ok (.iload 4, 2) := by decide +kernel
theorem dX7_wished_75 : decode cX7_wished 75 = .ok (.aload_n 0, 1) := by decide +kernel
theorem dX7_wished_76 : decode cX7_wished 76 = .ok (.aload_n 0, 1) := by decide +kernel
theorem dX7_wished_77 : decode cX7_wished 77 = .ok (.getfield 67, 3) := by decide +kernel
theorem dX7_wished_80 : decode cX7_wished 80 = .ok (.iload_n 1, 1) := by decide +kernel
theorem dX7_wished_81 : decode cX7_wished 81 = .ok (.aaload, 1) := by decide +kernel
theorem dX7_wished_82 : decode cX7_wished 82 = .ok (.iload_n 2, 1) := by decide +kernel
theorem dX7_wished_83 : decode cX7_wished 83 = .ok (.invokevirtual 190, 3) := by decide +kernel
theorem dX7_wished_86 : decode cX7_wished 86 = .ok (.ineg, 1) := by decide +kernel
theorem dX7_wished_87 : decode cX7_wished 87 = .ok (.invokevirtual 159, 3) := by decide +kernel
theorem dX7_wished_90 : decode cX7_wished 90 = .ok (.iinc 4 20, 3) := by decide +kernel
theorem dX7_wished_93 : decode cX7_wished 93 = .ok (.goto (-40), 3) := by decide +kernel
theorem dX7_wished_96 : decode cX7_wished 96 = .ok (.iload_n 3, 1) := by decide +kernel
theorem dX7_wished_97 : decode cX7_wished 97 = .ok (.ifCond .ne 13, 3) := by decide +kernel
theorem dX7_wished_100 : decode cX7_wished 100 = .ok (.aload_n 0, 1) := by decide +kernel
theorem dX7_wished_101 : decode cX7_wished 101 = .ok (.getfield 55, 3) := by decide +kernel
theorem dX7_wished_104 : decode cX7_wished 104 = .ok (.getfield 163, 3) := by decide +kernel
theorem dX7_wished_107 : decode cX7_wished 107 = .ok (.goto 11, 3) := by decide +kernel
theorem dX7_wished_110 : decode cX7_wished 110 = .ok (.aload_n 0, 1) := by decide +kernel
theorem dX7_wished_111 : decode cX7_wished 111 = .ok (.getfield 55, 3) := by decide +kernel
theorem dX7_wished_114 : decode cX7_wished 114 = .ok (.getfield 166, 3) := by decide +kernel
theorem dX7_wished_117 : decode cX7_wished 117 = .ok (.ineg, 1) := by decide +kernel
theorem dX7_wished_118 : decode cX7_wished 118 = .ok (.ireturn, 1) := by decide +kernel
theorem dX7_fee_0 : decode cX7_fee 0 = .ok (.aload_n 0, 1) := by decide +kernel
theorem dX7_fee_1 : decode cX7_fee 1 = .ok (.getfield 38, 3) := by decide +kernel
theorem dX7_fee_4 : decode cX7_fee 4 = .ok (.getfield 194, 3) := by decide +kernel
theorem dX7_fee_7 : decode cX7_fee 7 = .ok (.iconst 1, 1) := by decide +kernel
theorem dX7_fee_8 : decode cX7_fee 8 = .ok (.iaload, 1) := by decide +kernel
theorem dX7_fee_9 : decode cX7_fee 9 = .ok (.istore_n 1, 1) := by decide +kernel
theorem dX7_fee_10 : decode cX7_fee 10 = .ok (.iload_n 1, 1) := by decide +kernel
theorem dX7_fee_11 : decode cX7_fee 11 = .ok (.ifCond .ge 13, 3) := by decide +kernel
theorem dX7_fee_14 : decode cX7_fee 14 = .ok (.aload_n 0, 1) := by decide +kernel
theorem dX7_fee_15 : decode cX7_fee 15 = .ok (.getfield 38, 3) := by decide +kernel
theorem dX7_fee_18 : decode cX7_fee 18 = .ok (.getfield 123, 3) := by decide +kernel
theorem dX7_fee_21 : decode cX7_fee 21 = .ok (.goto 26, 3) := by decide +kernel
theorem dX7_fee_24 : decode cX7_fee 24 = .ok (.aload_n 0, 1) := by decide +kernel
theorem dX7_fee_25 : decode cX7_fee 25 = .ok (.getfield 20, 3) := by decide +kernel
theorem dX7_fee_28 : decode cX7_fee 28 = .ok (.iload_n 1, 1) := by decide +kernel
theorem dX7_fee_29 : decode cX7_fee 29 = .ok (.aload_n 0, 1) := by decide +kernel
theorem dX7_fee_30 : decode cX7_fee 30 = .ok (.getfield 38, 3) := by decide +kernel
theorem dX7_fee_33 : decode cX7_fee 33 = .ok (.getfield 138, 3) := by decide +kernel
theorem dX7_fee_36 : decode cX7_fee 36 = .ok (.aload_n 0, 1) := by decide +kernel
theorem dX7_fee_37 : decode cX7_fee 37 = .ok (.getfield 38, 3) := by decide +kernel
theorem dX7_fee_40 : decode cX7_fee 40 = .ok (.getfield 123, 3) := by decide +kernel
theorem dX7_fee_43 : decode cX7_fee 43 = .ok (.iconst 0, 1) := by decide +kernel
theorem dX7_fee_44 : decode cX7_fee 44 = .ok (.invokevirtual 197, 3) := by decide +kernel
theorem dX7_fee_47 : decode cX7_fee 47 = .ok (.ireturn, 1) := by decide +kernel
theorem dX7_fine_0 : decode cX7_fine 0 = .ok (.aload_n 0, 1) := by decide +kernel
theorem dX7_fine_1 : decode cX7_fine 1 = .ok (.iload_n 1, 1) := by decide +kernel
theorem dX7_fine_2 : decode cX7_fine 2 = .ok (.invokevirtual 92, 3) := by decide +kernel
theorem dX7_fine_5 : decode cX7_fine 5 = .ok (.ifCond .ne 6, 3) := by decide +kernel
theorem dX7_fine_8 : decode cX7_fine 8 = .ok (.ldc 83, 2) := by decide +kernel
theorem dX7_fine_10 : decode cX7_fine 10 = .ok (.ireturn, 1) := by decide +kernel
theorem dX7_fine_11 : decode cX7_fine 11 = .ok (.aload_n 0, 1) := by decide +kernel
theorem dX7_fine_12 : decode cX7_fine 12 = .ok (.getfield 38, 3) := by decide +kernel
theorem dX7_fine_15 : decode cX7_fine 15 = .ok (.getfield 100, 3) := by decide +kernel
theorem dX7_fine_18 : decode cX7_fine 18 = .ok (.bipush 7, 2) := by decide +kernel
theorem dX7_fine_20 : decode cX7_fine 20 = .ok (.aaload, 1) := by decide +kernel
theorem dX7_fine_21 : decode cX7_fine 21 = .ok (.iload_n 1, 1) := by decide +kernel
theorem dX7_fine_22 : decode cX7_fine 22 = .ok (.iaload, 1) := by decide +kernel
theorem dX7_fine_23 : decode cX7_fine 23 = .ok (.istore_n 2, 1) := by decide +kernel
theorem dX7_fine_24 : decode cX7_fine 24 = .ok (.aload_n 0, 1) := by decide +kernel
theorem dX7_fine_25 : decode cX7_fine 25 = .ok (.getfield 38, 3) := by decide +kernel
theorem dX7_fine_28 : decode cX7_fine 28 = .ok (.getfield 194, 3) := by decide +kernel
theorem dX7_fine_31 : decode cX7_fine 31 = .ok (.iconst 2, 1) := by decide +kernel
theorem dX7_fine_32 : decode cX7_fine 32 = .ok (.iaload, 1) := by decide +kernel
theorem dX7_fine_33 : decode cX7_fine 33 = .ok (.istore_n 3, 1) := by decide +kernel
theorem dX7_fine_34 : decode cX7_fine 34 = .ok (.iload_n 3, 1) := by decide +kernel
theorem dX7_fine_35 : decode cX7_fine 35 = .ok (.ifCond .ge 7, 3) := by decide +kernel
theorem dX7_fine_38 : decode cX7_fine 38 = .ok (.iload_n 2, 1) := by decide +kernel
theorem dX7_fine_39 : decode cX7_fine 39 = .ok (.goto 25, 3) := by decide +kernel
theorem dX7_fine_42 : decode cX7_fine 42 = .ok (.aload_n 0, 1) := by decide +kernel
theorem dX7_fine_43 : decode cX7_fine 43 = .ok (.getfield 20, 3) := by decide +kernel
theorem dX7_fine_46 : decode cX7_fine 46 = .ok (.iload_n 3, 1) := by decide +kernel
theorem dX7_fine_47 : decode cX7_fine 47 = .ok (.iload_n 2, 1) := by decide +kernel
theorem dX7_fine_48 : decode cX7_fine 48 = .ok (.aload_n 0, 1) := by decide +kernel
theorem dX7_fine_49 : decode cX7_fine 49 = .ok (.getfield 38, 3) := by decide +kernel
theorem dX7_fine_52 : decode cX7_fine 52 = .ok (.getfield 100, 3) := by decide +kernel
theorem dX7_fine_55 : decode cX7_fine 55 = .ok (.bipush 8, 2) := by decide +kernel
theorem dX7_fine_57 : decode cX7_fine 57 = .ok (.aaload, 1) := by decide +kernel
theorem dX7_fine_58 : decode cX7_fine 58 = .ok (.iload_n 1, 1) := by decide +kernel
theorem dX7_fine_59 : decode cX7_fine 59 = .ok (.iaload, 1) := by decide +kernel
theorem dX7_fine_60 : decode cX7_fine 60 = .ok (.iconst 0, 1) := by decide +kernel
theorem dX7_fine_61 : decode cX7_fine 61 = .ok (.invokevirtual 197, 3) := by decide +kernel
theorem dX7_fine_64 : decode cX7_fine 64 = .ok (.ireturn, 1) := by decide +kernel
theorem dX7_feed_0 : decode cX7_feed 0 = .ok (.aload_n 0, 1) := by decide +kernel
theorem dX7_feed_1 : decode cX7_feed 1 = .ok (.getfield 13, 3) := by decide +kernel
theorem dX7_feed_4 : decode cX7_feed 4 = .ok (.bipush 12, 2) := by decide +kernel
theorem dX7_feed_6 : decode cX7_feed 6 = .ok (.iadd, 1) := by decide +kernel
theorem dX7_feed_7 : decode cX7_feed 7 = .ok (.bipush 96, 2) := by decide +kernel
theorem dX7_feed_9 : decode cX7_feed 9 = .ok (.if_icmp .le 6, 3) := by decide +kernel
theorem dX7_feed_12 : decode cX7_feed 12 = .ok (.ldc 91, 2) := by decide +kernel
theorem dX7_feed_14 : decode cX7_feed 14 = .ok (.ireturn, 1) := by decide +kernel
theorem dX7_feed_15 : decode cX7_feed 15 = .ok (.aload_n 0, 1) := by decide +kernel
theorem dX7_feed_16 : decode cX7_feed 16 = .ok (.iload_n 1, 1) := by decide +kernel
theorem dX7_feed_17 : decode cX7_feed 17 = .ok (.invokevirtual 201, 3) := by decide +kernel
theorem dX7_feed_20 : decode cX7_feed 20 = .ok (.aload_n 0, 1) := by decide +kernel
theorem dX7_feed_21 : decode cX7_feed 21 = .ok (.iload_n 2, 1) := by decide +kernel
theorem dX7_feed_22 : decode cX7_feed 22 = .ok (.invokevirtual 201, 3) := by decide +kernel
theorem dX7_feed_25 : decode cX7_feed 25 = .ok (.aload_n 0, 1) := by decide +kernel
theorem dX7_feed_26 : decode cX7_feed 26 = .ok (.iload_n 3, 1) := by decide +kernel
theorem dX7_feed_27 : decode cX7_feed 27 = .ok (.invokevirtual 201, 3) := by decide +kernel
theorem dX7_feed_30 : decode cX7_feed 30 = .ok (.aload_n 0, 1) := by decide +kernel
theorem dX7_feed_31 : decode cX7_feed 31 = .ok (.getfield 13, 3) := by decide +kernel
theorem dX7_feed_34 : decode cX7_feed 34 = .ok (.ireturn, 1) := by decide +kernel
theorem dX7_trim_0 : decode cX7_trim 0 = .ok (.iload_n 1, 1) := by decide +kernel
theorem dX7_trim_1 : decode cX7_trim 1 = .ok (.iconst 0, 1) := by decide +kernel
theorem dX7_trim_2 : decode cX7_trim 2 = .ok (.aload_n 0, 1) := by decide +kernel
theorem dX7_trim_3 : decode cX7_trim 3 = .ok (.getfield 13, 3) := by decide +kernel
theorem dX7_trim_6 : decode cX7_trim 6 = .ok (.invokestatic 96, 3) := by decide +kernel
theorem dX7_trim_9 : decode cX7_trim 9 = .ok (.ifCond .ne 6, 3) := by decide +kernel
theorem dX7_trim_12 : decode cX7_trim 12 = .ok (.ldc 83, 2) := by decide +kernel
theorem dX7_trim_14 : decode cX7_trim 14 = .ok (.ireturn, 1) := by decide +kernel
theorem dX7_trim_15 : decode cX7_trim 15 = .ok (.aload_n 0, 1) := by decide +kernel
theorem dX7_trim_16 : decode cX7_trim 16 = .ok (.iload_n 1, 1) := by decide +kernel
theorem dX7_trim_17 : decode cX7_trim 17 = .ok (.putfield 13, 3) := by decide +kernel
theorem dX7_trim_20 : decode cX7_trim 20 = .ok (.iload_n 1, 1) := by decide +kernel
theorem dX7_trim_21 : decode cX7_trim 21 = .ok (.ireturn, 1) := by decide +kernel
theorem dX7_text_0 : decode cX7_text 0 = .ok (.aload_n 0, 1) := by decide +kernel
theorem dX7_text_1 : decode cX7_text 1 = .ok (.getfield 29, 3) := by decide +kernel
theorem dX7_text_4 : decode cX7_text 4 = .ok (.aload_n 0, 1) := by decide +kernel
theorem dX7_text_5 : decode cX7_text 5 = .ok (.getfield 13, 3) := by decide +kernel
theorem dX7_text_8 : decode cX7_text 8 = .ok (.invokevirtual 205, 3) := by decide +kernel
theorem dX7_text_11 : decode cX7_text 11 = .ok (.istore_n 1, 1) := by decide +kernel
theorem dX7_text_12 : decode cX7_text 12 = .ok (.aload_n 0, 1) := by decide +kernel
theorem dX7_text_13 : decode cX7_text 13 = .ok (.iconst 0, 1) := by decide +kernel
theorem dX7_text_14 : decode cX7_text 14 = .ok (.putfield 13, 3) := by decide +kernel
theorem dX7_text_17 : decode cX7_text 17 = .ok (.iload_n 1, 1) := by decide +kernel
theorem dX7_text_18 : decode cX7_text 18 = .ok (.ifCond .lt 8, 3) := by decide +kernel
theorem dX7_text_21 : decode cX7_text 21 = .ok (.bipush (-100), 2) := by decide +kernel
theorem dX7_text_23 : decode cX7_text 23 = .ok (.iload_n 1, 1) := by decide +kernel
theorem dX7_text_24 : decode cX7_text 24 = .ok (.isub, 1) := by decide +kernel
theorem dX7_text_25 : decode cX7_text 25 = .ok (.ireturn, 1) := by decide +kernel
theorem dX7_text_26 : decode cX7_text 26 = .ok (.aload_n 0, 1) := by decide +kernel
theorem dX7_text_27 : decode cX7_text 27 = .ok (.getfield 38, 3) := by decide +kernel
theorem dX7_text_30 : decode cX7_text 30 = .ok (.getfield 208, 3) := by decide +kernel
theorem dX7_text_33 : decode cX7_text 33 = .ok (.bipush 14, 2) := by decide +kernel
theorem dX7_text_35 : decode cX7_text 35 = .ok (.if_icmp .lt 6, 3) := by decide +kernel
theorem dX7_text_38 : decode cX7_text 38 = .ok (.ldc 91, 2) := by decide +kernel
theorem dX7_text_40 : decode cX7_text 40 = .ok (.ireturn, 1) := by decide +kernel
theorem dX7_text_41 : decode cX7_text 41 = .ok (.aload_n 0, 1) := by decide +kernel
theorem dX7_text_42 : decode cX7_text 42 = .ok (.getfield 38, 3) := by decide +kernel
theorem dX7_text_45 : decode cX7_text 45 = .ok (.getfield 208, 3) := by decide +kernel
theorem dX7_text_48 : decode cX7_text 48 = .ok (.istore_n 2, 1) := by decide +kernel
theorem dX7_text_49 : decode cX7_text 49 = .ok (.aload_n 0, 1) := by decide +kernel
theorem dX7_text_50 : decode cX7_text 50 = .ok (.getfield 20, 3) := by decide +kernel
theorem dX7_text_53 : decode cX7_text 53 = .ok (.iload_n 2, 1) := by decide +kernel
theorem dX7_text_54 : decode cX7_text 54 = .ok (.aload_n 0, 1) := by decide +kernel
theorem dX7_text_55 : decode cX7_text 55 = .ok (.getfield 29, 3) := by decide +kernel
theorem dX7_text_58 : decode cX7_text 58 = .ok (.invokevirtual 211, 3) := by decide +kernel
theorem dX7_text_61 : decode cX7_text 61 = .ok (.aload_n 0, 1) := by decide +kernel
theorem dX7_text_62 : decode cX7_text 62 = .ok (.getfield 38, 3) := by decide +kernel
theorem dX7_text_65 : decode cX7_text 65 = .ok (.getfield 194, 3) := by decide +kernel
theorem dX7_text_68 : decode cX7_text 68 = .ok (.aload_n 0, 1) := by decide +kernel
theorem dX7_text_69 : decode cX7_text 69 = .ok (.getfield 29, 3) := by decide +kernel
theorem dX7_text_72 : decode cX7_text 72 = .ok (.getfield 215, 3) := by decide +kernel
theorem dX7_text_75 : decode cX7_text 75 = .ok (.iload_n 2, 1) := by decide +kernel
theorem dX7_text_76 : decode cX7_text 76 = .ok (.iastore, 1) := by decide +kernel
theorem dX7_text_77 : decode cX7_text 77 = .ok (.aload_n 0, 1) := by decide +kernel
theorem dX7_text_78 : decode cX7_text 78 = .ok (.getfield 38, 3) := by decide +kernel
theorem dX7_text_81 : decode cX7_text 81 = .ok (.dup, 1) := by decide +kernel
theorem dX7_text_82 : decode cX7_text 82 = .ok (.getfield 208, 3) := by decide +kernel
theorem dX7_text_85 : decode cX7_text 85 = .ok (.iconst 1, 1) := by decide +kernel
theorem dX7_text_86 : decode cX7_text 86 = .ok (.iadd, 1) := by decide +kernel
theorem dX7_text_87 : decode cX7_text 87 = .ok (.putfield 208, 3) := by decide +kernel
theorem dX7_text_90 : decode cX7_text 90 = .ok (.iload_n 2, 1) := by decide +kernel
theorem dX7_text_91 : decode cX7_text 91 = .ok (.ireturn, 1) := by decide +kernel
theorem dX7_textTold_0 : decode cX7_textTold 0 = .ok (.iload_n 1, 1) := by decide +kernel
theorem dX7_textTold_1 : decode cX7_textTold 1 = .ok (.iconst 0, 1) := by decide +kernel
theorem dX7_textTold_2 : decode cX7_textTold 2 = .ok (.aload_n 0, 1) := by decide +kernel
theorem dX7_textTold_3 : decode cX7_textTold 3 = .ok (.getfield 38, 3) := by decide +kernel
theorem dX7_textTold_6 : decode cX7_textTold 6 = .ok (.getfield 208, 3) := by decide +kernel
theorem dX7_textTold_9 : decode cX7_textTold 9 = .ok (.iconst 1, 1) := by decide +kernel
theorem dX7_textTold_10 : decode cX7_textTold 10 = .ok (.isub, 1) := by decide +kernel
theorem dX7_textTold_11 : decode cX7_textTold 11 = .ok (.invokestatic 96, 3) := by decide +kernel
theorem dX7_textTold_14 : decode cX7_textTold 14 = .ok (.ifCond .eq 12, 3) := by decide +kernel
theorem dX7_textTold_17 : decode cX7_textTold 17 = .ok (.iload_n 2, 1) := by decide +kernel
theorem dX7_textTold_18 : decode cX7_textTold 18 = .ok (.iconst 0, 1) := by decide +kernel
theorem dX7_textTold_19 : decode cX7_textTold 19 = .ok (.iconst 1, 1) := by decide +kernel
theorem dX7_textTold_20 : decode cX7_textTold 20 = .ok (.invokestatic 96, 3) := by decide +kernel
theorem dX7_textTold_23 : decode cX7_textTold 23 = .ok (.ifCond .ne 6, 3) := by decide +kernel
theorem dX7_textTold_26 : decode cX7_textTold 26 = .ok (.ldc 83, 2) := by decide +kernel
theorem dX7_textTold_28 : decode cX7_textTold 28 = .ok (.ireturn, 1) := by decide +kernel
theorem dX7_textTold_29 : decode cX7_textTold 29 = .ok (.iload_n 2, 1) := by decide +kernel
theorem dX7_textTold_30 : decode cX7_textTold 30 = .ok (.ifCond .ne 15, 3) := by decide +kernel
theorem dX7_textTold_33 : decode cX7_textTold 33 = .ok (.aload_n 0, 1) := by decide +kernel
theorem dX7_textTold_34 : decode cX7_textTold 34 = .ok (.getfield 20, 3) := by decide +kernel
theorem dX7_textTold_37 : decode cX7_textTold 37 = .ok (.getfield 218, 3) := by decide +kernel
theorem dX7_textTold_40 : decode cX7_textTold 40 = .ok (.iload_n 1, 1) := by decide +kernel
theorem dX7_textTold_41 : decode cX7_textTold 41 = .ok (.iaload, 1) := by decide +kernel
theorem dX7_textTold_42 : decode cX7_textTold 42 = .ok (.goto 12, 3) := by decide +kernel
theorem dX7_textTold_45 : decode cX7_textTold 45 = .ok (.aload_n 0, 1) := by decide +kernel
theorem dX7_textTold_46 : decode cX7_textTold 46 = .ok (.getfield 20, 3) := by decide +kernel
theorem dX7_textTold_49 : decode cX7_textTold 49 = .ok (.getfield 221, 3) := by decide +kernel
theorem dX7_textTold_52 : decode cX7_textTold 52 = .ok (.iload_n 1, 1) := by decide +kernel
theorem dX7_textTold_53 : decode cX7_textTold 53 = .ok (.iaload, 1) := by decide +kernel
theorem dX7_textTold_54 : decode cX7_textTold 54 = .ok (.ireturn, 1) := by decide +kernel
theorem dX7_why_0 : decode cX7_why 0 = .ok (.iload_n 1, 1) := by decide +kernel
theorem dX7_why_1 : decode cX7_why 1 = .ok (.iconst 0, 1) := by decide +kernel
theorem dX7_why_2 : decode cX7_why 2 = .ok (.iconst 2, 1) := by decide +kernel
theorem dX7_why_3 : decode cX7_why 3 = .ok (.invokestatic 96, 3) := by decide +kernel
theorem dX7_why_6 : decode cX7_why 6 = .ok (.ifCond .ne 6, 3) := by decide +kernel
theorem dX7_why_9 : decode cX7_why 9 = .ok (.ldc 83, 2) := by decide +kernel
theorem dX7_why_11 : decode cX7_why 11 = .ok (.ireturn, 1) := by decide +kernel
theorem dX7_why_12 : decode cX7_why 12 = .ok (.aload_n 0, 1) := by decide +kernel
theorem dX7_why_13 : decode cX7_why 13 = .ok (.getfield 38, 3) := by decide +kernel
theorem dX7_why_16 : decode cX7_why 16 = .ok (.getfield 194, 3) := by decide +kernel
theorem dX7_why_19 : decode cX7_why 19 = .ok (.iload_n 1, 1) := by decide +kernel
theorem dX7_why_20 : decode cX7_why 20 = .ok (.iaload, 1) := by decide +kernel
theorem dX7_why_21 : decode cX7_why 21 = .ok (.ifCond .ge 8, 3) := by decide +kernel
theorem dX7_why_24 : decode cX7_why 24 = .ok (.ldc 151, 2) := by decide +kernel
theorem dX7_why_26 : decode cX7_why 26 = .ok (.goto 12, 3) := by decide +kernel
theorem dX7_why_29 : decode cX7_why 29 = .ok (.aload_n 0, 1) := by decide +kernel
theorem dX7_why_30 : decode cX7_why 30 = .ok (.getfield 38, 3) := by decide +kernel
theorem dX7_why_33 : decode cX7_why 33 = .ok (.getfield 194, 3) := by decide +kernel
theorem dX7_why_36 : decode cX7_why 36 = .ok (.iload_n 1, 1) := by decide +kernel
theorem dX7_why_37 : decode cX7_why 37 = .ok (.iaload, 1) := by decide +kernel
theorem dX7_why_38 : decode cX7_why 38 = .ok (.ireturn, 1) := by decide +kernel
theorem dX7_sheet_0 : decode cX7_sheet 0 = .ok (.iload_n 1, 1) := by decide +kernel
theorem dX7_sheet_1 : decode cX7_sheet 1 = .ok (.invokestatic 183, 3) := by decide +kernel
theorem dX7_sheet_4 : decode cX7_sheet 4 = .ok (.ifCond .eq 12, 3) := by decide +kernel
theorem dX7_sheet_7 : decode cX7_sheet 7 = .ok (.iload_n 2, 1) := by decide +kernel
theorem dX7_sheet_8 : decode cX7_sheet 8 = .ok (.iconst (-1), 1) := by decide +kernel
theorem dX7_sheet_9 : decode cX7_sheet 9 = .ok (.iconst 1, 1) := by decide +kernel
theorem dX7_sheet_10 : decode cX7_sheet 10 = .ok (.invokestatic 96, 3) := by decide +kernel
theorem dX7_sheet_13 : decode cX7_sheet 13 = .ok (.ifCond .ne 6, 3) := by decide +kernel
theorem dX7_sheet_16 : decode cX7_sheet 16 = .ok (.ldc 83, 2) := by decide +kernel
theorem dX7_sheet_18 : decode cX7_sheet 18 = .ok (.ireturn, 1) := by decide +kernel
theorem dX7_sheet_19 : decode cX7_sheet 19 = .ok (.iload_n 2, 1) := by decide +kernel
theorem dX7_sheet_20 : decode cX7_sheet 20 = .ok (.iconst (-1), 1) := by decide +kernel
theorem dX7_sheet_21 : decode cX7_sheet 21 = .ok (.if_icmp .ne 16, 3) := by decide +kernel
theorem dX7_sheet_24 : decode cX7_sheet 24 = .ok (.aload_n 0, 1) := by decide +kernel
theorem dX7_sheet_25 : decode cX7_sheet 25 = .ok (.getfield 67, 3) := by decide +kernel
theorem dX7_sheet_28 : decode cX7_sheet 28 = .ok (.iload_n 1, 1) := by decide +kernel
theorem dX7_sheet_29 : decode cX7_sheet 29 = .ok (.aaload, 1) := by decide +kernel
theorem dX7_sheet_30 : decode cX7_sheet 30 = .ok (.iconst (-1), 1) := by decide +kernel
theorem dX7_sheet_31 : decode cX7_sheet 31 = .ok (.iconst 0, 1) := by decide +kernel
theorem dX7_sheet_32 : decode cX7_sheet 32 = .ok (.invokevirtual 224, 3) := by decide +kernel
theorem dX7_sheet_35 : decode cX7_sheet 35 = .ok (.iconst 0, 1) := by decide +kernel
theorem dX7_sheet_36 : decode cX7_sheet 36 = .ok (.ireturn, 1) := by decide +kernel
theorem dX7_sheet_37 : decode cX7_sheet 37 = .ok (.iload_n 3, 1) := by decide +kernel
theorem dX7_sheet_38 : decode cX7_sheet 38 = .ok (.bipush 24, 2) := by decide +kernel
theorem dX7_sheet_40 : decode cX7_sheet 40 = .ok (.if_icmp .le 6, 3) := by decide +kernel
theorem dX7_sheet_43 : decode cX7_sheet 43 = .ok (.ldc 83, 2) := by decide +kernel
theorem dX7_sheet_45 : decode cX7_sheet 45 = .ok (.ireturn, 1) := by decide +kernel
theorem dX7_sheet_46 : decode cX7_sheet 46 = .ok (.iload_n 3, 1) := by decide +kernel
theorem dX7_sheet_47 : decode cX7_sheet 47 = .ok (.ifCond .ge 6, 3) := by decide +kernel
theorem dX7_sheet_50 : decode cX7_sheet 50 = .ok (.ldc 227, 2) := by decide +kernel
theorem dX7_sheet_52 : decode cX7_sheet 52 = .ok (.ireturn, 1) := by decide +kernel
theorem dX7_sheet_53 : decode cX7_sheet 53 = .ok (.aload_n 0, 1) := by decide +kernel
theorem dX7_sheet_54 : decode cX7_sheet 54 = .ok (.getfield 67, 3) := by decide +kernel
theorem dX7_sheet_57 : decode cX7_sheet 57 = .ok (.iload_n 1, 1) := by decide +kernel
theorem dX7_sheet_58 : decode cX7_sheet 58 = .ok (.aaload, 1) := by decide +kernel
theorem dX7_sheet_59 : decode cX7_sheet 59 = .ok (.iload_n 2, 1) := by decide +kernel
theorem dX7_sheet_60 : decode cX7_sheet 60 = .ok (.iload_n 3, 1) := by decide +kernel
theorem dX7_sheet_61 : decode cX7_sheet 61 = .ok (.invokevirtual 224, 3) := by decide +kernel
theorem dX7_sheet_64 : decode cX7_sheet 64 = .ok (.iload_n 3, 1) := by decide +kernel
theorem dX7_sheet_65 : decode cX7_sheet 65 = .ok (.ireturn, 1) := by decide +kernel
theorem dX7_mark_0 : decode cX7_mark 0 = .ok (.aload_n 0, 1) := by decide +kernel
theorem dX7_mark_1 : decode cX7_mark 1 = .ok (.iload_n 1, 1) := by decide +kernel
theorem dX7_mark_2 : decode cX7_mark 2 = .ok (.invokevirtual 228, 3) := by decide +kernel
theorem dX7_mark_5 : decode cX7_mark 5 = .ok (.ifCond .eq 9, 3) := by decide +kernel
theorem dX7_mark_8 : decode cX7_mark 8 = .ok (.aload_n 0, 1) := by decide +kernel
theorem dX7_mark_9 : decode cX7_mark 9 = .ok (.iload_n 1, 1) := by decide +kernel
theorem dX7_mark_10 : decode cX7_mark 10 = .ok (.invokevirtual 228, 3) := by decide +kernel
theorem dX7_mark_13 : decode cX7_mark 13 = .ok (.ireturn, 1) := by decide +kernel
theorem dX7_mark_14 : decode cX7_mark 14 = .ok (.aload_n 0, 1) := by decide +kernel
theorem dX7_mark_15 : decode cX7_mark 15 = .ok (.getfield 67, 3) := by decide +kernel
theorem dX7_mark_18 : decode cX7_mark 18 = .ok (.iload_n 1, 1) := by decide +kernel
theorem dX7_mark_19 : decode cX7_mark 19 = .ok (.aaload, 1) := by decide +kernel
theorem dX7_mark_20 : decode cX7_mark 20 = .ok (.astore 4, 2) := by decide +kernel
theorem dX7_mark_22 : decode cX7_mark 22 = .ok (.aload 4, 2) := by decide +kernel
theorem dX7_mark_24 : decode cX7_mark 24 = .ok (.iload_n 2, 1) := by decide +kernel
theorem dX7_mark_25 : decode cX7_mark 25 = .ok (.invokevirtual 231, 3) := by decide +kernel
theorem dX7_mark_28 : decode cX7_mark 28 = .ok (.ifCond .ne 6, 3) := by decide +kernel
theorem dX7_mark_31 : decode cX7_mark 31 = .ok (.ldc 234, 2) := by decide +kernel
theorem dX7_mark_33 : decode cX7_mark 33 = .ok (.ireturn, 1) := by decide +kernel
theorem dX7_mark_34 : decode cX7_mark 34 = .ok (.aload 4, 2) := by decide +kernel
theorem dX7_mark_36 : decode cX7_mark 36 = .ok (.getfield 186, 3) := by decide +kernel
theorem dX7_mark_39 : decode cX7_mark 39 = .ok (.ifCond .ne 23, 3) := by decide +kernel
theorem dX7_mark_42 : decode cX7_mark 42 = .ok (.iload_n 3, 1) := by decide +kernel
theorem dX7_mark_43 : decode cX7_mark 43 = .ok (.ldc 151, 2) := by decide +kernel
theorem dX7_mark_45 : decode cX7_mark 45 = .ok (.if_icmp .ne 6, 3) := by decide +kernel
theorem dX7_mark_48 : decode cX7_mark 48 = .ok (.ldc 116, 2) := by decide +kernel
theorem dX7_mark_50 : decode cX7_mark 50 = .ok (.ireturn, 1) := by decide +kernel
theorem dX7_mark_51 : decode cX7_mark 51 = .ok (.aload 4, 2) := by decide +kernel
theorem dX7_mark_53 : decode cX7_mark 53 = .ok (.getfield 235, 3) := by decide +kernel
theorem dX7_mark_56 : decode cX7_mark 56 = .ok (.iload_n 2, 1) := by decide +kernel
theorem dX7_mark_57 : decode cX7_mark 57 = .ok (.iload_n 3, 1) := by decide +kernel
theorem dX7_mark_58 : decode cX7_mark 58 = .ok (.i2s, 1) := by decide +kernel
theorem dX7_mark_59 : decode cX7_mark 59 = .ok (.iastore, 1) := by decide +kernel
theorem dX7_mark_60 : decode cX7_mark 60 = .ok (.iconst 1, 1) := by decide +kernel
theorem dX7_mark_61 : decode cX7_mark 61 = .ok (.ireturn, 1) := by decide +kernel
theorem dX7_mark_62 : decode cX7_mark 62 = .ok (.iload_n 3, 1) := by decide +kernel
theorem dX7_mark_63 : decode cX7_mark 63 = .ok (.ldc 151, 2) := by decide +kernel
theorem dX7_mark_65 : decode cX7_mark 65 = .ok (.if_icmp .eq 17, 3) := by decide +kernel
theorem dX7_mark_68 : decode cX7_mark 68 = .ok (.iload_n 3, 1) := by decide +kernel
theorem dX7_mark_69 : decode cX7_mark 69 = .ok (.ldc 238, 2) := by decide +kernel
theorem dX7_mark_71 : decode cX7_mark 71 = .ok (.ldc 239, 2) := by decide +kernel
theorem dX7_mark_73 : decode cX7_mark 73 = .ok (.invokestatic 96, 3) := by decide +kernel
theorem dX7_mark_76 : decode cX7_mark 76 = .ok (.ifCond .ne 6, 3) := by decide +kernel
theorem dX7_mark_79 : decode cX7_mark 79 = .ok (.ldc 83, 2) := by decide +kernel
theorem dX7_mark_81 : decode cX7_mark 81 = .ok (.ireturn, 1) := by decide +kernel
theorem dX7_mark_82 : decode cX7_mark 82 = .ok (.aload 4, 2) := by decide +kernel
theorem dX7_mark_84 : decode cX7_mark 84 = .ok (.getfield 235, 3) := by decide +kernel
theorem dX7_mark_87 : decode cX7_mark 87 = .ok (.iload_n 2, 1) := by decide +kernel
theorem dX7_mark_88 : decode cX7_mark 88 = .ok (.iload_n 3, 1) := by decide +kernel
theorem dX7_mark_89 : decode cX7_mark 89 = .ok (.iastore, 1) := by decide +kernel
theorem dX7_mark_90 : decode cX7_mark 90 = .ok (.iconst 1, 1) := by decide +kernel
theorem dX7_mark_91 : decode cX7_mark 91 = .ok (.ireturn, 1) := by decide +kernel
theorem dX7_pour_0 : decode cX7_pour 0 = .ok (.aload_n 0, 1) := by decide +kernel
theorem dX7_pour_1 : decode cX7_pour 1 = .ok (.iload_n 1, 1) := by decide +kernel
theorem dX7_pour_2 : decode cX7_pour 2 = .ok (.invokevirtual 228, 3) := by decide +kernel
theorem dX7_pour_5 : decode cX7_pour 5 = .ok (.ifCond .eq 9, 3) := by decide +kernel
theorem dX7_pour_8 : decode cX7_pour 8 = .ok (.aload_n 0, 1) := by decide +kernel
theorem dX7_pour_9 : decode cX7_pour 9 = .ok (.iload_n 1, 1) := by decide +kernel
theorem dX7_pour_10 : decode cX7_pour 10 = .ok (.invokevirtual 228, 3) := by decide +kernel
theorem dX7_pour_13 : decode cX7_pour 13 = .ok (.ireturn, 1) := by decide +kernel
theorem dX7_pour_14 : decode cX7_pour 14 = .ok (.aload_n 0, 1) := by decide +kernel
theorem dX7_pour_15 : decode cX7_pour 15 = .ok (.getfield 67, 3) := by decide +kernel
theorem dX7_pour_18 : decode cX7_pour 18 = .ok (.iload_n 1, 1) := by decide +kernel
theorem dX7_pour_19 : decode cX7_pour 19 = .ok (.aaload, 1) := by decide +kernel
theorem dX7_pour_20 : decode cX7_pour 20 = .ok (.astore_n 2, 1) := by decide +kernel
theorem dX7_pour_21 : decode cX7_pour 21 = .ok (.iconst 0, 1) := by decide +kernel
theorem dX7_pour_22 : decode cX7_pour 22 = .ok (.istore_n 3, 1) := by decide +kernel
theorem dX7_pour_23 : decode cX7_pour 23 = .ok (.iconst 0, 1) := by decide +kernel
theorem dX7_pour_24 : decode cX7_pour 24 = .ok (.istore 4, 2) := by decide +kernel
theorem dX7_pour_26 : decode cX7_pour 26 = .ok (.iload 4, 2) := by decide +kernel
theorem dX7_pour_28 : decode cX7_pour 28 = .ok (.aload_n 0, 1) := by decide +kernel
theorem dX7_pour_29 : decode cX7_pour 29 = .ok (.getfield 38, 3) := by decide +kernel
theorem dX7_pour_32 : decode cX7_pour 32 = .ok (.getfield 84, 3) := by decide +kernel
theorem dX7_pour_35 : decode cX7_pour 35 = .ok (.if_icmp .ge 53, 3) := by decide +kernel
theorem dX7_pour_38 : decode cX7_pour 38 = .ok (.aload_n 2, 1) := by decide +kernel
theorem dX7_pour_39 : decode cX7_pour 39 = .ok (.iload 4, 2) := by decide +kernel
theorem dX7_pour_41 : decode cX7_pour 41 = .ok (.invokevirtual 240, 3) := by decide +kernel
theorem dX7_pour_44 : decode cX7_pour 44 = .ok (.ifCond .eq 38, 3) := by decide +kernel
theorem dX7_pour_47 : decode cX7_pour 47 = .ok (.aload_n 2, 1) := by decide +kernel
theorem dX7_pour_48 : decode cX7_pour 48 = .ok (.getfield 235, 3) := by decide +kernel
theorem dX7_pour_51 : decode cX7_pour 51 = .ok (.iload 4, 2) := by decide +kernel
theorem dX7_pour_53 : decode cX7_pour 53 = .ok (.iaload, 1) := by decide +kernel
theorem dX7_pour_54 : decode cX7_pour 54 = .ok (.sipush 599, 3) := by decide +kernel
theorem dX7_pour_57 : decode cX7_pour 57 = .ok (.invokestatic 243, 3) := by decide +kernel
theorem dX7_pour_60 : decode cX7_pour 60 = .ok (.istore 5, 2) := by decide +kernel
theorem dX7_pour_62 : decode cX7_pour 62 = .ok (.aload_n 0, 1) := by decide +kernel
theorem dX7_pour_63 : decode cX7_pour 63 = .ok (.getfield 38, 3) := by decide +kernel
theorem dX7_pour_66 : decode cX7_pour 66 = .ok (.iload 4, 2) := by decide +kernel
theorem dX7_pour_68 : decode cX7_pour 68 = .ok (.iconst 2, 1) := by decide +kernel
theorem dX7_pour_69 : decode cX7_pour 69 = .ok (.iload 5, 2) := by decide +kernel
theorem dX7_pour_71 : decode cX7_pour 71 = .ok (.invokevirtual 117, 3) := by decide +kernel
theorem dX7_pour_74 : decode cX7_pour 74 = .ok (.iload 5, 2) := by decide +kernel
theorem dX7_pour_76 : decode cX7_pour 76 = .ok (.if_icmp .eq 6, 3) := by decide +kernel
theorem dX7_pour_79 : decode cX7_pour 79 = .ok (.iinc 3 1, 3) := by decide +kernel
theorem dX7_pour_82 : decode cX7_pour 82 = .ok (.iinc 4 1, 3) := by decide +kernel
theorem dX7_pour_85 : decode cX7_pour 85 = .ok (.goto (-59), 3) := by decide +kernel
theorem dX7_pour_88 : decode cX7_pour 88 = .ok (.iload_n 3, 1) := by decide +kernel
theorem dX7_pour_89 : decode cX7_pour 89 = .ok (.ireturn, 1) := by decide +kernel
theorem dX7_reads_0 : decode cX7_reads 0 = .ok (.aload_n 0, 1) := by decide +kernel
theorem dX7_reads_1 : decode cX7_reads 1 = .ok (.iload_n 1, 1) := by decide +kernel
theorem dX7_reads_2 : decode cX7_reads 2 = .ok (.invokevirtual 228, 3) := by decide +kernel
theorem dX7_reads_5 : decode cX7_reads 5 = .ok (.ifCond .eq 9, 3) := by decide +kernel
theorem dX7_reads_8 : decode cX7_reads 8 = .ok (.aload_n 0, 1) := by decide +kernel
theorem dX7_reads_9 : decode cX7_reads 9 = .ok (.iload_n 1, 1) := by decide +kernel
theorem dX7_reads_10 : decode cX7_reads 10 = .ok (.invokevirtual 228, 3) := by decide +kernel
theorem dX7_reads_13 : decode cX7_reads 13 = .ok (.ireturn, 1) := by decide +kernel
theorem dX7_reads_14 : decode cX7_reads 14 = .ok (.aload_n 0, 1) := by decide +kernel
theorem dX7_reads_15 : decode cX7_reads 15 = .ok (.getfield 67, 3) := by decide +kernel
theorem dX7_reads_18 : decode cX7_reads 18 = .ok (.iload_n 1, 1) := by decide +kernel
theorem dX7_reads_19 : decode cX7_reads 19 = .ok (.aaload, 1) := by decide +kernel
theorem dX7_reads_20 : decode cX7_reads 20 = .ok (.astore_n 2, 1) := by decide +kernel
theorem dX7_reads_21 : decode cX7_reads 21 = .ok (.iconst 0, 1) := by decide +kernel
theorem dX7_reads_22 : decode cX7_reads 22 = .ok (.istore_n 3, 1) := by decide +kernel
theorem dX7_reads_23 : decode cX7_reads 23 = .ok (.iload_n 3, 1) := by decide +kernel
theorem dX7_reads_24 : decode cX7_reads 24 = .ok (.aload_n 2, 1) := by decide +kernel
theorem dX7_reads_25 : decode cX7_reads 25 = .ok (.getfield 246, 3) := by decide +kernel
theorem dX7_reads_28 : decode cX7_reads 28 = .ok (.if_icmp .ge 47, 3) := by decide +kernel
theorem dX7_reads_31 : decode cX7_reads 31 = .ok (.aload_n 2, 1) := by decide +kernel
theorem dX7_reads_32 : decode cX7_reads 32 = .ok (.iload_n 3, 1) := by decide +kernel
theorem dX7_reads_33 : decode cX7_reads 33 = .ok (.invokevirtual 240, 3) := by decide +kernel
theorem dX7_reads_36 : decode cX7_reads 36 = .ok (.ifCond .eq 33, 3) := by decide +kernel
theorem dX7_reads_39 : decode cX7_reads 39 = .ok (.aload_n 0, 1) := by decide +kernel
theorem dX7_reads_40 : decode cX7_reads 40 = .ok (.iload_n 3, 1) := by decide +kernel
theorem dX7_reads_41 : decode cX7_reads 41 = .ok (.invokevirtual 92, 3) := by decide +kernel
theorem dX7_reads_44 : decode cX7_reads 44 = .ok (.ifCond .eq 23, 3) := by decide +kernel
theorem dX7_reads_47 : decode cX7_reads 47 = .ok (.aload_n 0, 1) := by decide +kernel
theorem dX7_reads_48 : decode cX7_reads 48 = .ok (.getfield 38, 3) := by decide +kernel
theorem dX7_reads_51 : decode cX7_reads 51 = .ok (.getfield 100, 3) := by decide +kernel
theorem dX7_reads_54 : decode cX7_reads 54 = .ok (.iconst 5, 1) := by decide +kernel
theorem dX7_reads_55 : decode cX7_reads 55 = .ok (.aaload, 1) := by decide +kernel
theorem dX7_reads_56 : decode cX7_reads 56 = .ok (.iload_n 3, 1) := by decide +kernel
theorem dX7_reads_57 : decode cX7_reads 57 = .ok (.iaload, 1) := by decide +kernel
theorem dX7_reads_58 : decode cX7_reads 58 = .ok (.aload_n 2, 1) := by decide +kernel
theorem dX7_reads_59 : decode cX7_reads 59 = .ok (.getfield 235, 3) := by decide +kernel
theorem dX7_reads_62 : decode cX7_reads 62 = .ok (.iload_n 3, 1) := by decide +kernel
theorem dX7_reads_63 : decode cX7_reads 63 = .ok (.iaload, 1) := by decide +kernel
theorem dX7_reads_64 : decode cX7_reads 64 = .ok (.if_icmp .eq 5, 3) := by decide +kernel
theorem dX7_reads_67 : decode cX7_reads 67 = .ok (.iload_n 3, 1) := by decide +kernel
theorem dX7_reads_68 : decode cX7_reads 68 = .ok (.ireturn, 1) := by decide +kernel
theorem dX7_reads_69 : decode cX7_reads 69 = .ok (.iinc 3 1, 3) := by decide +kernel
theorem dX7_reads_72 : decode cX7_reads 72 = .ok (.goto (-49), 3) := by decide +kernel
theorem dX7_reads_75 : decode cX7_reads 75 = .ok (.ldc 151, 2) := by decide +kernel
theorem dX7_reads_77 : decode cX7_reads 77 = .ok (.ireturn, 1) := by decide +kernel
theorem dX7_copy_0 : decode cX7_copy 0 = .ok (.iload_n 1, 1) := by decide +kernel
theorem dX7_copy_1 : decode cX7_copy 1 = .ok (.invokestatic 183, 3) := by decide +kernel
theorem dX7_copy_4 : decode cX7_copy 4 = .ok (.ifCond .eq 10, 3) := by decide +kernel
theorem dX7_copy_7 : decode cX7_copy 7 = .ok (.iload_n 3, 1) := by decide +kernel
theorem dX7_copy_8 : decode cX7_copy 8 = .ok (.invokestatic 183, 3) := by decide +kernel
theorem dX7_copy_11 : decode cX7_copy 11 = .ok (.ifCond .ne 6, 3) := by decide +kernel
theorem dX7_copy_14 : decode cX7_copy 14 = .ok (.ldc 83, 2) := by decide +kernel
theorem dX7_copy_16 : decode cX7_copy 16 = .ok (.ireturn, 1) := by decide +kernel
theorem dX7_copy_17 : decode cX7_copy 17 = .ok (.aload_n 0, 1) := by decide +kernel
theorem dX7_copy_18 : decode cX7_copy 18 = .ok (.getfield 67, 3) := by decide +kernel
theorem dX7_copy_21 : decode cX7_copy 21 = .ok (.iload_n 1, 1) := by decide +kernel
theorem dX7_copy_22 : decode cX7_copy 22 = .ok (.aaload, 1) := by decide +kernel
theorem dX7_copy_23 : decode cX7_copy 23 = .ok (.astore 6, 2) := by decide +kernel
theorem dX7_copy_25 : decode cX7_copy 25 = .ok (.aload_n 0, 1) := by decide +kernel
theorem dX7_copy_26 : decode cX7_copy 26 = .ok (.getfield 67, 3) := by decide +kernel
theorem dX7_copy_29 : decode cX7_copy 29 = .ok (.iload_n 3, 1) := by decide +kernel
theorem dX7_copy_30 : decode cX7_copy 30 = .ok (.aaload, 1) := by decide +kernel
theorem dX7_copy_31 : decode cX7_copy 31 = .ok (.astore 7, 2) := by decide +kernel
theorem dX7_copy_33 : decode cX7_copy 33 = .ok (.aload 6, 2) := by decide +kernel
theorem dX7_copy_35 : decode cX7_copy 35 = .ok (.getfield 186, 3) := by decide +kernel
theorem dX7_copy_38 : decode cX7_copy 38 = .ok (.iconst (-1), 1) := by decide +kernel
theorem dX7_copy_39 : decode cX7_copy 39 = .ok (.if_icmp .eq 12, 3) := by decide +kernel
theorem dX7_copy_42 : decode cX7_copy 42 = .ok (.aload 7, 2) := by decide +kernel
theorem dX7_copy_44 : decode cX7_copy 44 = .ok (.getfield 186, 3) := by decide +kernel
theorem dX7_copy_47 : decode cX7_copy 47 = .ok (.iconst (-1), 1) := by decide +kernel
theorem dX7_copy_48 : decode cX7_copy 48 = .ok (.if_icmp .ne 6, 3) := by decide +kernel
theorem dX7_copy_51 : decode cX7_copy 51 = .ok (.ldc 189, 2) := by decide +kernel
theorem dX7_copy_53 : decode cX7_copy 53 = .ok (.ireturn, 1) := by decide +kernel
theorem dX7_copy_54 : decode cX7_copy 54 = .ok (.aload 6, 2) := by decide +kernel
theorem dX7_copy_56 : decode cX7_copy 56 = .ok (.getfield 186, 3) := by decide +kernel
theorem dX7_copy_59 : decode cX7_copy 59 = .ok (.aload 7, 2) := by decide +kernel
theorem dX7_copy_61 : decode cX7_copy 61 = .ok (.getfield 186, 3) := by decide +kernel
theorem dX7_copy_64 : decode cX7_copy 64 = .ok (.if_icmp .eq 6, 3) := by decide +kernel
theorem dX7_copy_67 : decode cX7_copy 67 = .ok (.ldc 116, 2) := by decide +kernel
theorem dX7_copy_69 : decode cX7_copy 69 = .ok (.ireturn, 1) := by decide +kernel
theorem dX7_copy_70 : decode cX7_copy 70 = .ok (.aload 6, 2) := by decide +kernel
theorem dX7_copy_72 : decode cX7_copy 72 = .ok (.iload_n 2, 1) := by decide +kernel
theorem dX7_copy_73 : decode cX7_copy 73 = .ok (.iload 5, 2) := by decide +kernel
theorem dX7_copy_75 : decode cX7_copy 75 = .ok (.invokevirtual 249, 3) := by decide +kernel
theorem dX7_copy_78 : decode cX7_copy 78 = .ok (.ifCond .eq 15, 3) := by decide +kernel
theorem dX7_copy_81 : decode cX7_copy 81 = .ok (.aload 7, 2) := by decide +kernel
theorem dX7_copy_83 : decode cX7_copy 83 = .ok (.iload 4, 2) := by decide +kernel
theorem dX7_copy_85 : decode cX7_copy 85 = .ok (.iload 5, 2) := by decide +kernel
theorem dX7_copy_87 : decode cX7_copy 87 = .ok (.invokevirtual 249, 3) := by decide +kernel
theorem dX7_copy_90 : decode cX7_copy 90 = .ok (.ifCond .ne 6, 3) := by decide +kernel
theorem dX7_copy_93 : decode cX7_copy 93 = .ok (.ldc 234, 2) := by decide +kernel
theorem dX7_copy_95 : decode cX7_copy 95 = .ok (.ireturn, 1) := by decide +kernel
theorem dX7_copy_96 : decode cX7_copy 96 = .ok (.aload 6, 2) := by decide +kernel
theorem dX7_copy_98 : decode cX7_copy 98 = .ok (.getfield 235, 3) := by decide +kernel
theorem dX7_copy_101 : decode cX7_copy 101 = .ok (.iload_n 2, 1) := by decide +kernel
theorem dX7_copy_102 : decode cX7_copy 102 = .ok (.aload 7, 2) := by decide +kernel
theorem dX7_copy_104 : decode cX7_copy 104 = .ok (.getfield 235, 3) := by decide +kernel
theorem dX7_copy_107 : decode cX7_copy 107 = .ok (.iload 4, 2) := by decide +kernel
theorem dX7_copy_109 : decode cX7_copy 109 = .ok (.iload 5, 2) := by decide +kernel
theorem dX7_copy_111 : decode cX7_copy 111 = .ok (.invokestatic 252, 3) := by decide +kernel
theorem dX7_copy_114 : decode cX7_copy 114 = .ok (.iload 5, 2) := by decide +kernel
theorem dX7_copy_116 : decode cX7_copy 116 = .ok (.ireturn, 1) := by decide +kernel
theorem dX7_lay_0 : decode cX7_lay 0 = .ok (.iload_n 1, 1) := by decide +kernel
theorem dX7_lay_1 : decode cX7_lay 1 = .ok (.invokestatic 258, 3) := by decide +kernel
theorem dX7_lay_4 : decode cX7_lay 4 = .ok (.ifCond .eq 12, 3) := by decide +kernel
theorem dX7_lay_7 : decode cX7_lay 7 = .ok (.iload_n 2, 1) := by decide +kernel
theorem dX7_lay_8 : decode cX7_lay 8 = .ok (.iconst 0, 1) := by decide +kernel
theorem dX7_lay_9 : decode cX7_lay 9 = .ok (.iconst 3, 1) := by decide +kernel
theorem dX7_lay_10 : decode cX7_lay 10 = .ok (.invokestatic 96, 3) := by decide +kernel
theorem dX7_lay_13 : decode cX7_lay 13 = .ok (.ifCond .ne 6, 3) := by decide +kernel
theorem dX7_lay_16 : decode cX7_lay 16 = .ok (.ldc 83, 2) := by decide +kernel
theorem dX7_lay_18 : decode cX7_lay 18 = .ok (.ireturn, 1) := by decide +kernel
theorem dX7_lay_19 : decode cX7_lay 19 = .ok (.iload_n 2, 1) := by decide +kernel
theorem dX7_lay_20 : decode cX7_lay 20 = .ok (.iconst 1, 1) := by decide +kernel
theorem dX7_lay_21 : decode cX7_lay 21 = .ok (.if_icmp .ne 11, 3) := by decide +kernel
theorem dX7_lay_24 : decode cX7_lay 24 = .ok (.aload_n 0, 1) := by decide +kernel
theorem dX7_lay_25 : decode cX7_lay 25 = .ok (.iload_n 3, 1) := by decide +kernel
theorem dX7_lay_26 : decode cX7_lay 26 = .ok (.invokevirtual 92, 3) := by decide +kernel
theorem dX7_lay_29 : decode cX7_lay 29 = .ok (.ifCond .eq 15, 3) := by decide +kernel
theorem dX7_lay_32 : decode cX7_lay 32 = .ok (.iload_n 2, 1) := by decide +kernel
theorem dX7_lay_33 : decode cX7_lay 33 = .ok (.iconst 2, 1) := by decide +kernel
theorem dX7_lay_34 : decode cX7_lay 34 = .ok (.if_icmp .ne 13, 3) := by decide +kernel
theorem dX7_lay_37 : decode cX7_lay 37 = .ok (.iload_n 3, 1) := by decide +kernel
theorem dX7_lay_38 : decode cX7_lay 38 = .ok (.invokestatic 183, 3) := by decide +kernel
theorem dX7_lay_41 : decode cX7_lay 41 = .ok (.ifCond .ne 6, 3) := by decide +kernel
theorem dX7_lay_44 : decode cX7_lay 44 = .ok (.ldc 83, 2) := by decide +kernel
theorem dX7_lay_46 : decode cX7_lay 46 = .ok (.ireturn, 1) := by decide +kernel
theorem dX7_lay_47 : decode cX7_lay 47 = .ok (.iload_n 2, 1) := by decide +kernel
theorem dX7_lay_48 : decode cX7_lay 48 = .ok (.iconst 2, 1) := by decide +kernel
theorem dX7_lay_49 : decode cX7_lay 49 = .ok (.if_icmp .ne 19, 3) := by decide +kernel
theorem dX7_lay_52 : decode cX7_lay 52 = .ok (.aload_n 0, 1) := by decide +kernel
theorem dX7_lay_53 : decode cX7_lay 53 = .ok (.getfield 67, 3) := by decide +kernel
theorem dX7_lay_56 : decode cX7_lay 56 = .ok (.iload_n 3, 1) := by decide +kernel
theorem dX7_lay_57 : decode cX7_lay 57 = .ok (.aaload, 1) := by decide +kernel
theorem dX7_lay_58 : decode cX7_lay 58 = .ok (.getfield 186, 3) := by decide +kernel
theorem dX7_lay_61 : decode cX7_lay 61 = .ok (.iconst (-1), 1) := by decide +kernel
theorem dX7_lay_62 : decode cX7_lay 62 = .ok (.if_icmp .ne 6, 3) := by decide +kernel
theorem dX7_lay_65 : decode cX7_lay 65 = .ok (.ldc 189, 2) := by decide +kernel
theorem dX7_lay_67 : decode cX7_lay 67 = .ok (.ireturn, 1) := by decide +kernel
theorem dX7_lay_68 : decode cX7_lay 68 = .ok (.aload_n 0, 1) := by decide +kernel
theorem dX7_lay_69 : decode cX7_lay 69 = .ok (.getfield 73, 3) := by decide +kernel
theorem dX7_lay_72 : decode cX7_lay 72 = .ok (.iload_n 1, 1) := by decide +kernel
theorem dX7_lay_73 : decode cX7_lay 73 = .ok (.aaload, 1) := by decide +kernel
theorem dX7_lay_74 : decode cX7_lay 74 = .ok (.astore 4, 2) := by decide +kernel
theorem dX7_lay_76 : decode cX7_lay 76 = .ok (.aload 4, 2) := by decide +kernel
theorem dX7_lay_78 : decode cX7_lay 78 = .ok (.getfield 261, 3) := by decide +kernel
theorem dX7_lay_81 : decode cX7_lay 81 = .ok (.istore 5, 2) := by decide +kernel
theorem dX7_lay_83 : decode cX7_lay 83 = .ok (.aload 4, 2) := by decide +kernel
theorem dX7_lay_85 : decode cX7_lay 85 = .ok (.iload_n 2, 1) := by decide +kernel
theorem dX7_lay_86 : decode cX7_lay 86 = .ok (.putfield 261, 3) := by decide +kernel
theorem dX7_lay_89 : decode cX7_lay 89 = .ok (.iload_n 2, 1) := by decide +kernel
theorem dX7_lay_90 : decode cX7_lay 90 = .ok (.iconst 1, 1) := by decide +kernel
theorem dX7_lay_91 : decode cX7_lay 91 = .ok (.if_icmp .ne 38, 3) := by decide +kernel
theorem dX7_lay_94 : decode cX7_lay 94 = .ok (.aload 4, 2) := by decide +kernel
theorem dX7_lay_96 : decode cX7_lay 96 = .ok (.aload_n 0, 1) := by decide +kernel
theorem dX7_lay_97 : decode cX7_lay 97 = .ok (.getfield 38, 3) := by decide +kernel
theorem dX7_lay_100 : decode cX7_lay 100 = .ok (.getfield 100, 3) := by decide +kernel
theorem dX7_lay_103 : decode cX7_lay 103 = .ok (.iconst 0, 1) := by decide +kernel
theorem dX7_lay_104 : decode cX7_lay 104 = .ok (.aaload, 1) := by decide +kernel
theorem dX7_lay_105 : decode cX7_lay 105 = .ok (.iload_n 3, 1) := by decide +kernel
theorem dX7_lay_106 : decode cX7_lay 106 = .ok (.iaload, 1) := by decide +kernel
theorem dX7_lay_107 : decode cX7_lay 107 = .ok (.putfield 264, 3) := by decide +kernel
theorem dX7_lay_110 : decode cX7_lay 110 = .ok (.aload 4, 2) := by decide +kernel
theorem dX7_lay_112 : decode cX7_lay 112 = .ok (.aload_n 0, 1) := by decide +kernel
theorem dX7_lay_113 : decode cX7_lay 113 = .ok (.getfield 38, 3) := by decide +kernel
theorem dX7_lay_116 : decode cX7_lay 116 = .ok (.getfield 100, 3) := by decide +kernel
theorem dX7_lay_119 : decode cX7_lay 119 = .ok (.iconst 2, 1) := by decide +kernel
theorem dX7_lay_120 : decode cX7_lay 120 = .ok (.aaload, 1) := by decide +kernel
theorem dX7_lay_121 : decode cX7_lay 121 = .ok (.iload_n 3, 1) := by decide +kernel
theorem dX7_lay_122 : decode cX7_lay 122 = .ok (.iaload, 1) := by decide +kernel
theorem dX7_lay_123 : decode cX7_lay 123 = .ok (.putfield 267, 3) := by decide +kernel
theorem dX7_lay_126 : decode cX7_lay 126 = .ok (.goto 36, 3) := by decide +kernel
theorem dX7_lay_129 : decode cX7_lay 129 = .ok (.iload_n 2, 1) := by decide +kernel
theorem dX7_lay_130 : decode cX7_lay 130 = .ok (.iconst 2, 1) := by decide +kernel
theorem dX7_lay_131 : decode cX7_lay 131 = .ok (.if_icmp .ne 20, 3) := by decide +kernel
theorem dX7_lay_134 : decode cX7_lay 134 = .ok (.aload 4, 2) := by decide +kernel
theorem dX7_lay_136 : decode cX7_lay 136 = .ok (.getfield 270, 3) := by decide +kernel
theorem dX7_lay_139 : decode cX7_lay 139 = .ok (.aload_n 0, 1) := by decide +kernel
theorem dX7_lay_140 : decode cX7_lay 140 = .ok (.getfield 67, 3) := by decide +kernel
theorem dX7_lay_143 : decode cX7_lay 143 = .ok (.iload_n 3, 1) := by decide +kernel
theorem dX7_lay_144 : decode cX7_lay 144 = .ok (.aaload, 1) := by decide +kernel
theorem dX7_lay_145 : decode cX7_lay 145 = .ok (.invokevirtual 274, 3) := by decide +kernel
theorem dX7_lay_148 : decode cX7_lay 148 = .ok (.goto 14, 3) := by decide +kernel
theorem dX7_lay_151 : decode cX7_lay 151 = .ok (.iload_n 2, 1) := by decide +kernel
theorem dX7_lay_152 : decode cX7_lay 152 = .ok (.iconst 3, 1) := by decide +kernel
theorem dX7_lay_153 : decode cX7_lay 153 = .ok (.if_icmp .ne 9, 3) := by decide +kernel
theorem dX7_lay_156 : decode cX7_lay 156 = .ok (.aload 4, 2) := by decide +kernel
theorem dX7_lay_158 : decode cX7_lay 158 = .ok (.iload_n 3, 1) := by decide +kernel
theorem dX7_lay_159 : decode cX7_lay 159 = .ok (.putfield 277, 3) := by decide +kernel
theorem dX7_lay_162 : decode cX7_lay 162 = .ok (.iload 5, 2) := by decide +kernel
theorem dX7_lay_164 : decode cX7_lay 164 = .ok (.ireturn, 1) := by decide +kernel
theorem dX7_ask_0 : decode cX7_ask 0 = .ok (.iconst 0, 1) := by decide +kernel
theorem dX7_ask_1 : decode cX7_ask 1 = .ok (.iload_n 2, 1) := by decide +kernel
theorem dX7_ask_2 : decode cX7_ask 2 = .ok (.invokestatic 79, 3) := by decide +kernel
theorem dX7_ask_5 : decode cX7_ask 5 = .ok (.ifCond .ne 6, 3) := by decide +kernel
theorem dX7_ask_8 : decode cX7_ask 8 = .ok (.ldc 83, 2) := by decide +kernel
theorem dX7_ask_10 : decode cX7_ask 10 = .ok (.ireturn, 1) := by decide +kernel
theorem dX7_ask_11 : decode cX7_ask 11 = .ok (.aload_n 0, 1) := by decide +kernel
theorem dX7_ask_12 : decode cX7_ask 12 = .ok (.iload_n 1, 1) := by decide +kernel
theorem dX7_ask_13 : decode cX7_ask 13 = .ok (.iconst 1, 1) := by decide +kernel
theorem dX7_ask_14 : decode cX7_ask 14 = .ok (.invokevirtual 280, 3) := by decide +kernel
theorem dX7_ask_17 : decode cX7_ask 17 = .ok (.ifCond .eq 10, 3) := by decide +kernel
theorem dX7_ask_20 : decode cX7_ask 20 = .ok (.aload_n 0, 1) := by decide +kernel
theorem dX7_ask_21 : decode cX7_ask 21 = .ok (.iload_n 1, 1) := by decide +kernel
theorem dX7_ask_22 : decode cX7_ask 22 = .ok (.iconst 1, 1) := by decide +kernel
theorem dX7_ask_23 : decode cX7_ask 23 = .ok (.invokevirtual 280, 3) := by decide +kernel
theorem dX7_ask_26 : decode cX7_ask 26 = .ok (.ireturn, 1) := by decide +kernel
theorem dX7_ask_27 : decode cX7_ask 27 = .ok (.aload_n 0, 1) := by decide +kernel
theorem dX7_ask_28 : decode cX7_ask 28 = .ok (.getfield 73, 3) := by decide +kernel
theorem dX7_ask_31 : decode cX7_ask 31 = .ok (.iload_n 1, 1) := by decide +kernel
theorem dX7_ask_32 : decode cX7_ask 32 = .ok (.aaload, 1) := by decide +kernel
theorem dX7_ask_33 : decode cX7_ask 33 = .ok (.astore_n 3, 1) := by decide +kernel
theorem dX7_ask_34 : decode cX7_ask 34 = .ok (.aload_n 3, 1) := by decide +kernel
theorem dX7_ask_35 : decode cX7_ask 35 = .ok (.getfield 264, 3) := by decide +kernel
theorem dX7_ask_38 : decode cX7_ask 38 = .ok (.iload_n 2, 1) := by decide +kernel
theorem dX7_ask_39 : decode cX7_ask 39 = .ok (.invokestatic 113, 3) := by decide +kernel
theorem dX7_ask_42 : decode cX7_ask 42 = .ok (.ifCond .eq 17, 3) := by decide +kernel
theorem dX7_ask_45 : decode cX7_ask 45 = .ok (.aload_n 3, 1) := by decide +kernel
theorem dX7_ask_46 : decode cX7_ask 46 = .ok (.getfield 264, 3) := by decide +kernel
theorem dX7_ask_49 : decode cX7_ask 49 = .ok (.aload_n 3, 1) := by decide +kernel
theorem dX7_ask_50 : decode cX7_ask 50 = .ok (.getfield 267, 3) := by decide +kernel
theorem dX7_ask_53 : decode cX7_ask 53 = .ok (.invokestatic 104, 3) := by decide +kernel
theorem dX7_ask_56 : decode cX7_ask 56 = .ok (.goto 5, 3) := by decide +kernel
theorem dX7_ask_59 : decode cX7_ask 59 = .ok (.ldc 116, 2) := by decide +kernel
theorem dX7_ask_61 : decode cX7_ask 61 = .ok (.ireturn, 1) := by decide +kernel
theorem dX7_item_0 : decode cX7_item 0 = .ok (.aload_n 0, 1) := by decide +kernel
theorem dX7_item_1 : decode cX7_item 1 = .ok (.iload_n 1, 1) := by decide +kernel
theorem dX7_item_2 : decode cX7_item 2 = .ok (.iconst 2, 1) := by decide +kernel
theorem dX7_item_3 : decode cX7_item 3 = .ok (.invokevirtual 280, 3) := by decide +kernel
theorem dX7_item_6 : decode cX7_item 6 = .ok (.ifCond .eq 10, 3) := by decide +kernel
theorem dX7_item_9 : decode cX7_item 9 = .ok (.aload_n 0, 1) := by decide +kernel
theorem dX7_item_10 : decode cX7_item 10 = .ok (.iload_n 1, 1) := by decide +kernel
theorem dX7_item_11 : decode cX7_item 11 = .ok (.iconst 2, 1) := by decide +kernel
theorem dX7_item_12 : decode cX7_item 12 = .ok (.invokevirtual 280, 3) := by decide +kernel
theorem dX7_item_15 : decode cX7_item 15 = .ok (.ireturn, 1) := by decide +kernel
theorem dX7_item_16 : decode cX7_item 16 = .ok (.aload_n 0, 1) := by decide +kernel
theorem dX7_item_17 : decode cX7_item 17 = .ok (.getfield 73, 3) := by decide +kernel
theorem dX7_item_20 : decode cX7_item 20 = .ok (.iload_n 1, 1) := by decide +kernel
theorem dX7_item_21 : decode cX7_item 21 = .ok (.aaload, 1) := by decide +kernel
theorem dX7_item_22 : decode cX7_item 22 = .ok (.getfield 270, 3) := by decide +kernel
theorem dX7_item_25 : decode cX7_item 25 = .ok (.astore_n 3, 1) := by decide +kernel
theorem dX7_item_26 : decode cX7_item 26 = .ok (.aload_n 3, 1) := by decide +kernel
theorem dX7_item_27 : decode cX7_item 27 = .ok (.iload_n 2, 1) := by decide +kernel
theorem dX7_item_28 : decode cX7_item 28 = .ok (.invokevirtual 231, 3) := by decide +kernel
theorem dX7_item_31 : decode cX7_item 31 = .ok (.ifCond .ne 6, 3) := by decide +kernel
theorem dX7_item_34 : decode cX7_item 34 = .ok (.ldc 234, 2) := by decide +kernel
theorem dX7_item_36 : decode cX7_item 36 = .ok (.ireturn, 1) := by decide +kernel
theorem dX7_item_37 : decode cX7_item 37 = .ok (.aload_n 3, 1) := by decide +kernel
theorem dX7_item_38 : decode cX7_item 38 = .ok (.iload_n 2, 1) := by decide +kernel
theorem dX7_item_39 : decode cX7_item 39 = .ok (.invokevirtual 240, 3) := by decide +kernel
theorem dX7_item_42 : decode cX7_item 42 = .ok (.ifCond .eq 12, 3) := by decide +kernel
theorem dX7_item_45 : decode cX7_item 45 = .ok (.aload_n 3, 1) := by decide +kernel
theorem dX7_item_46 : decode cX7_item 46 = .ok (.getfield 235, 3) := by decide +kernel
theorem dX7_item_49 : decode cX7_item 49 = .ok (.iload_n 2, 1) := by decide +kernel
theorem dX7_item_50 : decode cX7_item 50 = .ok (.iaload, 1) := by decide +kernel
theorem dX7_item_51 : decode cX7_item 51 = .ok (.goto 5, 3) := by decide +kernel
theorem dX7_item_54 : decode cX7_item 54 = .ok (.ldc 116, 2) := by decide +kernel
theorem dX7_item_56 : decode cX7_item 56 = .ok (.ireturn, 1) := by decide +kernel
theorem dX7_rest_0 : decode cX7_rest 0 = .ok (.aload_n 0, 1) := by decide +kernel
theorem dX7_rest_1 : decode cX7_rest 1 = .ok (.iload_n 1, 1) := by decide +kernel
theorem dX7_rest_2 : decode cX7_rest 2 = .ok (.iconst 3, 1) := by decide +kernel
theorem dX7_rest_3 : decode cX7_rest 3 = .ok (.invokevirtual 280, 3) := by decide +kernel
theorem dX7_rest_6 : decode cX7_rest 6 = .ok (.ifCond .eq 10, 3) := by decide +kernel
theorem dX7_rest_9 : decode cX7_rest 9 = .ok (.aload_n 0, 1) := by decide +kernel
theorem dX7_rest_10 : decode cX7_rest 10 = .ok (.iload_n 1, 1) := by decide +kernel
theorem dX7_rest_11 : decode cX7_rest 11 = .ok (.iconst 3, 1) := by decide +kernel
theorem dX7_rest_12 : decode cX7_rest 12 = .ok (.invokevirtual 280, 3) := by decide +kernel
theorem dX7_rest_15 : decode cX7_rest 15 = .ok (.ireturn, 1) := by decide +kernel
theorem dX7_rest_16 : decode cX7_rest 16 = .ok (.iload_n 2, 1) := by decide +kernel
theorem dX7_rest_17 : decode cX7_rest 17 = .ok (.ifCond .ne 9, 3) := by decide +kernel
theorem dX7_rest_20 : decode cX7_rest 20 = .ok (.ldc_w 283, 3) := by decide +kernel
theorem dX7_rest_23 : decode cX7_rest 23 = .ok (.goto 14, 3) := by decide +kernel
theorem dX7_rest_26 : decode cX7_rest 26 = .ok (.aload_n 0, 1) := by decide +kernel
theorem dX7_rest_27 : decode cX7_rest 27 = .ok (.getfield 73, 3) := by decide +kernel
theorem dX7_rest_30 : decode cX7_rest 30 = .ok (.iload_n 1, 1) := by decide +kernel
theorem dX7_rest_31 : decode cX7_rest 31 = .ok (.aaload, 1) := by decide +kernel
theorem dX7_rest_32 : decode cX7_rest 32 = .ok (.getfield 277, 3) := by decide +kernel
theorem dX7_rest_35 : decode cX7_rest 35 = .ok (.iload_n 2, 1) := by decide +kernel
theorem dX7_rest_36 : decode cX7_rest 36 = .ok (.irem, 1) := by decide +kernel
theorem dX7_rest_37 : decode cX7_rest 37 = .ok (.ireturn, 1) := by decide +kernel
theorem dX7_tell_0 : decode cX7_tell 0 = .ok (.aload_n 0, 1) := by decide +kernel
theorem dX7_tell_1 : decode cX7_tell 1 = .ok (.getfield 62, 3) := by decide +kernel
theorem dX7_tell_4 : decode cX7_tell 4 = .ok (.bipush 60, 2) := by decide +kernel
theorem dX7_tell_6 : decode cX7_tell 6 = .ok (.if_icmp .lt 6, 3) := by decide +kernel
theorem dX7_tell_9 : decode cX7_tell 9 = .ok (.ldc 91, 2) := by decide +kernel
theorem dX7_tell_11 : decode cX7_tell 11 = .ok (.ireturn, 1) := by decide +kernel
theorem dX7_tell_12 : decode cX7_tell 12 = .ok (.aload_n 0, 1) := by decide +kernel
theorem dX7_tell_13 : decode cX7_tell 13 = .ok (.getfield 59, 3) := by decide +kernel
theorem dX7_tell_16 : decode cX7_tell 16 = .ok (.aload_n 0, 1) := by decide +kernel
theorem dX7_tell_17 : decode cX7_tell 17 = .ok (.getfield 62, 3) := by decide +kernel
theorem dX7_tell_20 : decode cX7_tell 20 = .ok (.iload_n 1, 1) := by decide +kernel
theorem dX7_tell_21 : decode cX7_tell 21 = .ok (.iastore, 1) := by decide +kernel
theorem dX7_tell_22 : decode cX7_tell 22 = .ok (.aload_n 0, 1) := by decide +kernel
theorem dX7_tell_23 : decode cX7_tell 23 = .ok (.dup, 1) := by decide +kernel
theorem dX7_tell_24 : decode cX7_tell 24 = .ok (.getfield 62, 3) := by decide +kernel
theorem dX7_tell_27 : decode cX7_tell 27 = .ok (.iconst 1, 1) := by decide +kernel
theorem dX7_tell_28 : decode cX7_tell 28 = .ok (.iadd, 1) := by decide +kernel
theorem dX7_tell_29 : decode cX7_tell 29 = .ok (.putfield 62, 3) := by decide +kernel
theorem dX7_tell_32 : decode cX7_tell 32 = .ok (.aload_n 0, 1) := by decide +kernel
theorem dX7_tell_33 : decode cX7_tell 33 = .ok (.getfield 62, 3) := by decide +kernel
theorem dX7_tell_36 : decode cX7_tell 36 = .ok (.ireturn, 1) := by decide +kernel
theorem dX7_check_0 : decode cX7_check 0 = .ok (.aload_n 0, 1) := by decide +kernel
theorem dX7_check_1 : decode cX7_check 1 = .ok (.getfield 62, 3) := by decide +kernel
theorem dX7_check_4 : decode cX7_check 4 = .ok (.istore_n 2, 1) := by decide +kernel
theorem dX7_check_5 : decode cX7_check 5 = .ok (.aload_n 0, 1) := by decide +kernel
theorem dX7_check_6 : decode cX7_check 6 = .ok (.iconst 0, 1) := by decide +kernel
theorem dX7_check_7 : decode cX7_check 7 = .ok (.putfield 62, 3) := by decide +kernel
theorem dX7_check_10 : decode cX7_check 10 = .ok (.iload_n 1, 1) := by decide +kernel
theorem dX7_check_11 : decode cX7_check 11 = .ok (.iconst 1, 1) := by decide +kernel
theorem dX7_check_12 : decode cX7_check 12 = .ok (.bipush 30, 2) := by decide +kernel
theorem dX7_check_14 : decode cX7_check 14 = .ok (.invokestatic 96, 3) := by decide +kernel
theorem dX7_check_17 : decode cX7_check 17 = .ok (.ifCond .ne 6, 3) := by decide +kernel
theorem dX7_check_20 : decode cX7_check 20 = .ok (.ldc 83, 2) := by decide +kernel
theorem dX7_check_22 : decode cX7_check 22 = .ok (.ireturn, 1) := by decide +kernel
theorem dX7_check_23 : decode cX7_check 23 = .ok (.aload_n 0, 1) := by decide +kernel
theorem dX7_check_24 : decode cX7_check 24 = .ok (.getfield 48, 3) := by decide +kernel
theorem dX7_check_27 : decode cX7_check 27 = .ok (.ifCond .ne 7, 3) := by decide +kernel
theorem dX7_check_30 : decode cX7_check 30 = .ok (.ldc_w 283, 3) := by decide +kernel
theorem dX7_check_33 : decode cX7_check 33 = .ok (.ireturn, 1) := by decide +kernel
theorem dX7_check_34 : decode cX7_check 34 = .ok (.aload_n 0, 1) := by decide +kernel
theorem dX7_check_35 : decode cX7_check 35 = .ok (.getfield 45, 3) := by decide +kernel
theorem dX7_check_38 : decode cX7_check 38 = .ok (.aload_n 0, 1) := by decide +kernel
theorem dX7_check_39 : decode cX7_check 39 = .ok (.getfield 42, 3) := by decide +kernel
theorem dX7_check_42 : decode cX7_check 42 = .ok (.invokevirtual 152, 3) := by decide +kernel
theorem dX7_check_45 : decode cX7_check 45 = .ok (.iconst 2, 1) := by decide +kernel
theorem dX7_check_46 : decode cX7_check 46 = .ok (.iload_n 1, 1) := by decide +kernel
theorem dX7_check_47 : decode cX7_check 47 = .ok (.sipush 9999, 3) := by decide +kernel
theorem dX7_check_50 : decode cX7_check 50 = .ok (.aload_n 0, 1) := by decide +kernel
theorem dX7_check_51 : decode cX7_check 51 = .ok (.getfield 42, 3) := by decide +kernel
theorem dX7_check_54 : decode cX7_check 54 = .ok (.getfield 138, 3) := by decide +kernel
theorem dX7_check_57 : decode cX7_check 57 = .ok (.isub, 1) := by decide +kernel
theorem dX7_check_58 : decode cX7_check 58 = .ok (.invokestatic 126, 3) := by decide +kernel
theorem dX7_check_61 : decode cX7_check 61 = .ok (.imul, 1) := by decide +kernel
theorem dX7_check_62 : decode cX7_check 62 = .ok (.istore_n 3, 1) := by decide +kernel
theorem dX7_check_63 : decode cX7_check 63 = .ok (.iconst 0, 1) := by decide +kernel
theorem dX7_check_64 : decode cX7_check 64 = .ok (.istore 4, 2) := by decide +kernel
theorem dX7_check_66 : decode cX7_check 66 = .ok (.iload 4, 2) := by decide +kernel
theorem dX7_check_68 : decode cX7_check 68 = .ok (.iload_n 3, 1) := by decide +kernel
theorem dX7_check_69 : decode cX7_check 69 = .ok (.if_icmp .ge 69, 3) := by decide +kernel
theorem dX7_check_72 : decode cX7_check 72 = .ok (.iload 4, 2) := by decide +kernel
theorem dX7_check_74 : decode cX7_check 74 = .ok (.iconst 2, 1) := by decide +kernel
theorem dX7_check_75 : decode cX7_check 75 = .ok (.irem, 1) := by decide +kernel
theorem dX7_check_76 : decode cX7_check 76 = .ok (.ifCond .ne 11, 3) := by decide +kernel
theorem dX7_check_79 : decode cX7_check 79 = .ok (.aload_n 0, 1) := by decide +kernel
theorem dX7_check_80 : decode cX7_check 80 = .ok (.getfield 45, 3) := by decide +kernel
theorem dX7_check_83 : decode cX7_check 83 = .ok (.invokevirtual 180, 3) := by decide +kernel
theorem dX7_check_86 : decode cX7_check 86 = .ok (.pop, 1) := by decide +kernel
theorem dX7_check_87 : decode cX7_check 87 = .ok (.aload_n 0, 1) := by decide +kernel
theorem dX7_check_88 : decode cX7_check 88 = .ok (.getfield 45, 3) := by decide +kernel
theorem dX7_check_91 : decode cX7_check 91 = .ok (.iload 4, 2) := by decide +kernel
theorem dX7_check_93 : decode cX7_check 93 = .ok (.iconst 2, 1) := by decide +kernel
theorem dX7_check_94 : decode cX7_check 94 = .ok (.irem, 1) := by decide +kernel
theorem dX7_check_95 : decode cX7_check 95 = .ok (.ifCond .ne 7, 3) := by decide +kernel
theorem dX7_check_98 : decode cX7_check 98 = .ok (.iconst 5, 1) := by decide +kernel
theorem dX7_check_99 : decode cX7_check 99 = .ok (.goto 5, 3) := by decide +kernel
theorem dX7_check_102 : decode cX7_check 102 = .ok (.bipush 6, 2) := by decide +kernel
theorem dX7_check_104 : decode cX7_check 104 = .ok (.invokevirtual 145, 3) := by decide +kernel
theorem dX7_check_107 : decode cX7_check 107 = .ok (.istore 5, 2) := by decide +kernel
theorem dX7_check_109 : decode cX7_check 109 = .ok (.iload 4, 2) := by decide +kernel
theorem dX7_check_111 : decode cX7_check 111 = .ok (.iload_n 2, 1) := by decide +kernel
theorem dX7_check_112 : decode cX7_check 112 = .ok (.if_icmp .ge 15, 3) := by decide +kernel
theorem dX7_check_115 : decode cX7_check 115 = .ok (.aload_n 0, 1) := by decide +kernel
theorem dX7_check_116 : decode cX7_check 116 = .ok (.getfield 59, 3) := by decide +kernel
theorem dX7_check_119 : decode cX7_check 119 = .ok (.iload 4, 2) := by decide +kernel
theorem dX7_check_121 : decode cX7_check 121 = .ok (.iaload, 1) := by decide +kernel
theorem dX7_check_122 : decode cX7_check 122 = .ok (.iload 5, 2) := by decide +kernel
theorem dX7_check_124 : decode cX7_check 124 = .ok (.if_icmp .eq 8, 3) := by decide +kernel
theorem dX7_check_127 : decode cX7_check 127 = .ok (.iconst 1, 1) := by decide +kernel
theorem dX7_check_128 : decode cX7_check 128 = .ok (.iload 4, 2) := by decide +kernel
theorem dX7_check_130 : decode cX7_check 130 = .ok (.iadd, 1) := by decide +kernel
theorem dX7_check_131 : decode cX7_check 131 = .ok (.ireturn, 1) := by decide +kernel
theorem dX7_check_132 : decode cX7_check 132 = .ok (.iinc 4 1, 3) := by decide +kernel
theorem dX7_check_135 : decode cX7_check 135 = .ok (.goto (-69), 3) := by decide +kernel
theorem dX7_check_138 : decode cX7_check 138 = .ok (.iload_n 2, 1) := by decide +kernel
theorem dX7_check_139 : decode cX7_check 139 = .ok (.iload_n 3, 1) := by decide +kernel
theorem dX7_check_140 : decode cX7_check 140 = .ok (.if_icmp .le 9, 3) := by decide +kernel
theorem dX7_check_143 : decode cX7_check 143 = .ok (.iconst 1, 1) := by decide +kernel
theorem dX7_check_144 : decode cX7_check 144 = .ok (.iload_n 3, 1) := by decide +kernel
theorem dX7_check_145 : decode cX7_check 145 = .ok (.iadd, 1) := by decide +kernel
theorem dX7_check_146 : decode cX7_check 146 = .ok (.goto 4, 3) := by decide +kernel
theorem dX7_check_149 : decode cX7_check 149 = .ok (.iconst 0, 1) := by decide +kernel
theorem dX7_check_150 : decode cX7_check 150 = .ok (.ireturn, 1) := by decide +kernel
theorem dX7_keep_0 : decode cX7_keep 0 = .ok (.aload_n 0, 1) := by decide +kernel
theorem dX7_keep_1 : decode cX7_keep 1 = .ok (.getfield 42, 3) := by decide +kernel
theorem dX7_keep_4 : decode cX7_keep 4 = .ok (.aload_n 0, 1) := by decide +kernel
theorem dX7_keep_5 : decode cX7_keep 5 = .ok (.getfield 38, 3) := by decide +kernel
theorem dX7_keep_8 : decode cX7_keep 8 = .ok (.invokevirtual 152, 3) := by decide +kernel
theorem dX7_keep_11 : decode cX7_keep 11 = .ok (.aload_n 0, 1) := by decide +kernel
theorem dX7_keep_12 : decode cX7_keep 12 = .ok (.iconst 1, 1) := by decide +kernel
theorem dX7_keep_13 : decode cX7_keep 13 = .ok (.putfield 48, 3) := by decide +kernel
theorem dX7_keep_16 : decode cX7_keep 16 = .ok (.aload_n 0, 1) := by decide +kernel
theorem dX7_keep_17 : decode cX7_keep 17 = .ok (.getfield 42, 3) := by decide +kernel
theorem dX7_keep_20 : decode cX7_keep 20 = .ok (.getfield 84, 3) := by decide +kernel
theorem dX7_keep_23 : decode cX7_keep 23 = .ok (.ireturn, 1) := by decide +kernel
theorem dX7_back_0 : decode cX7_back 0 = .ok (.aload_n 0, 1) := by decide +kernel
theorem dX7_back_1 : decode cX7_back 1 = .ok (.getfield 48, 3) := by decide +kernel
theorem dX7_back_4 : decode cX7_back 4 = .ok (.ifCond .ne 7, 3) := by decide +kernel
theorem dX7_back_7 : decode cX7_back 7 = .ok (.ldc_w 283, 3) := by decide +kernel
theorem dX7_back_10 : decode cX7_back 10 = .ok (.ireturn, 1) := by decide +kernel
theorem dX7_back_11 : decode cX7_back 11 = .ok (.aload_n 0, 1) := by decide +kernel
theorem dX7_back_12 : decode cX7_back 12 = .ok (.getfield 38, 3) := by decide +kernel
theorem dX7_back_15 : decode cX7_back 15 = .ok (.aload_n 0, 1) := by decide +kernel
theorem dX7_back_16 : decode cX7_back 16 = .ok (.getfield 42, 3) := by decide +kernel
theorem dX7_back_19 : decode cX7_back 19 = .ok (.invokevirtual 152, 3) := by decide +kernel
theorem dX7_back_22 : decode cX7_back 22 = .ok (.aload_n 0, 1) := by decide +kernel
theorem dX7_back_23 : decode cX7_back 23 = .ok (.getfield 38, 3) := by decide +kernel
theorem dX7_back_26 : decode cX7_back 26 = .ok (.getfield 84, 3) := by decide +kernel
theorem dX7_back_29 : decode cX7_back 29 = .ok (.ireturn, 1) := by decide +kernel
theorem dX7_count_0 : decode cX7_count 0 = .ok (.iload_n 1, 1) := by decide +kernel
theorem dX7_count_1 : decode cX7_count 1 = .ok (.tableswitch 105 0 7 #[47, 55, 63, 71, 79, 87, 92, 97], 47) := by decide +kernel
theorem dX7_count_48 : decode cX7_count 48 = .ok (.aload_n 0, 1) := by decide +kernel
theorem dX7_count_49 : decode cX7_count 49 = .ok (.getfield 38, 3) := by decide +kernel
theorem dX7_count_52 : decode cX7_count 52 = .ok (.getfield 84, 3) := by decide +kernel
theorem dX7_count_55 : decode cX7_count 55 = .ok (.ireturn, 1) := by decide +kernel
theorem dX7_count_56 : decode cX7_count 56 = .ok (.aload_n 0, 1) := by decide +kernel
theorem dX7_count_57 : decode cX7_count 57 = .ok (.getfield 38, 3) := by decide +kernel
theorem dX7_count_60 : decode cX7_count 60 = .ok (.getfield 138, 3) := by decide +kernel
theorem dX7_count_63 : decode cX7_count 63 = .ok (.ireturn, 1) := by decide +kernel
theorem dX7_count_64 : decode cX7_count 64 = .ok (.aload_n 0, 1) := by decide +kernel
theorem dX7_count_65 : decode cX7_count 65 = .ok (.getfield 38, 3) := by decide +kernel
theorem dX7_count_68 : decode cX7_count 68 = .ok (.getfield 120, 3) := by decide +kernel
theorem dX7_count_71 : decode cX7_count 71 = .ok (.ireturn, 1) := by decide +kernel
theorem dX7_count_72 : decode cX7_count 72 = .ok (.aload_n 0, 1) := by decide +kernel
theorem dX7_count_73 : decode cX7_count 73 = .ok (.getfield 38, 3) := by decide +kernel
theorem dX7_count_76 : decode cX7_count 76 = .ok (.getfield 123, 3) := by decide +kernel
theorem dX7_count_79 : decode cX7_count 79 = .ok (.ireturn, 1) := by decide +kernel
theorem dX7_count_80 : decode cX7_count 80 = .ok (.aload_n 0, 1) := by decide +kernel
theorem dX7_count_81 : decode cX7_count 81 = .ok (.getfield 38, 3) := by decide +kernel
theorem dX7_count_84 : decode cX7_count 84 = .ok (.getfield 208, 3) := by decide +kernel
theorem dX7_count_87 : decode cX7_count 87 = .ok (.ireturn, 1) := by decide +kernel
theorem dX7_count_88 : decode cX7_count 88 = .ok (.aload_n 0, 1) := by decide +kernel
theorem dX7_count_89 : decode cX7_count 89 = .ok (.getfield 62, 3) := by decide +kernel
theorem dX7_count_92 : decode cX7_count 92 = .ok (.ireturn, 1) := by decide +kernel
theorem dX7_count_93 : decode cX7_count 93 = .ok (.aload_n 0, 1) := by decide +kernel
theorem dX7_count_94 : decode cX7_count 94 = .ok (.getfield 13, 3) := by decide +kernel
theorem dX7_count_97 : decode cX7_count 97 = .ok (.ireturn, 1) := by decide +kernel
theorem dX7_count_98 : decode cX7_count 98 = .ok (.aload_n 0, 1) := by decide +kernel
theorem dX7_count_99 : decode cX7_count 99 = .ok (.getfield 38, 3) := by decide +kernel
theorem dX7_count_102 : decode cX7_count 102 = .ok (.getfield 135, 3) := by decide +kernel
theorem dX7_count_105 : decode cX7_count 105 = .ok (.ireturn, 1) := by decide +kernel
theorem dX7_count_106 : decode cX7_count 106 = .ok (.ldc 83, 2) := by decide +kernel
theorem dX7_count_108 : decode cX7_count 108 = .ok (.ireturn, 1) := by decide +kernel
theorem dX7_within_0 : decode cX7_within 0 = .ok (.iload_n 0, 1) := by decide +kernel
theorem dX7_within_1 : decode cX7_within 1 = .ok (.iload_n 1, 1) := by decide +kernel
theorem dX7_within_2 : decode cX7_within 2 = .ok (.if_icmp .lt 12, 3) := by decide +kernel
theorem dX7_within_5 : decode cX7_within 5 = .ok (.iload_n 0, 1) := by decide +kernel
theorem dX7_within_6 : decode cX7_within 6 = .ok (.iload_n 2, 1) := by decide +kernel
theorem dX7_within_7 : decode cX7_within 7 = .ok (.if_icmp .gt 7, 3) := by decide +kernel
theorem dX7_within_10 : decode cX7_within 10 = .ok (.iconst 1, 1) := by decide +kernel
theorem dX7_within_11 : decode cX7_within 11 = .ok (.goto 4, 3) := by decide +kernel
theorem dX7_within_14 : decode cX7_within 14 = .ok (.iconst 0, 1) := by decide +kernel
theorem dX7_within_15 : decode cX7_within 15 = .ok (.ireturn, 1) := by decide +kernel
theorem dX7_held_0 : decode cX7_held 0 = .ok (.iconst 0, 1) := by decide +kernel
theorem dX7_held_1 : decode cX7_held 1 = .ok (.iload_n 1, 1) := by decide +kernel
theorem dX7_held_2 : decode cX7_held 2 = .ok (.iload_n 0, 1) := by decide +kernel
theorem dX7_held_3 : decode cX7_held 3 = .ok (.invokestatic 126, 3) := by decide +kernel
theorem dX7_held_6 : decode cX7_held 6 = .ok (.invokestatic 284, 3) := by decide +kernel
theorem dX7_held_9 : decode cX7_held 9 = .ok (.ireturn, 1) := by decide +kernel
theorem dX7_fits_0 : decode cX7_fits 0 = .ok (.iload_n 0, 1) := by decide +kernel
theorem dX7_fits_1 : decode cX7_fits 1 = .ok (.iconst 0, 1) := by decide +kernel
theorem dX7_fits_2 : decode cX7_fits 2 = .ok (.iconst 4, 1) := by decide +kernel
theorem dX7_fits_3 : decode cX7_fits 3 = .ok (.invokestatic 96, 3) := by decide +kernel
theorem dX7_fits_6 : decode cX7_fits 6 = .ok (.ifCond .eq 24, 3) := by decide +kernel
theorem dX7_fits_9 : decode cX7_fits 9 = .ok (.iload_n 1, 1) := by decide +kernel
theorem dX7_fits_10 : decode cX7_fits 10 = .ok (.getstatic 287, 3) := by decide +kernel
theorem dX7_fits_13 : decode cX7_fits 13 = .ok (.iload_n 0, 1) := by decide +kernel
theorem dX7_fits_14 : decode cX7_fits 14 = .ok (.iaload, 1) := by decide +kernel
theorem dX7_fits_15 : decode cX7_fits 15 = .ok (.getstatic 173, 3) := by decide +kernel
theorem dX7_fits_18 : decode cX7_fits 18 = .ok (.iload_n 0, 1) := by decide +kernel
theorem dX7_fits_19 : decode cX7_fits 19 = .ok (.iaload, 1) := by decide +kernel
theorem dX7_fits_20 : decode cX7_fits 20 = .ok (.invokestatic 96, 3) := by decide +kernel
theorem dX7_fits_23 : decode cX7_fits 23 = .ok (.ifCond .eq 7, 3) := by decide +kernel
theorem dX7_fits_26 : decode cX7_fits 26 = .ok (.iconst 1, 1) := by decide +kernel
theorem dX7_fits_27 : decode cX7_fits 27 = .ok (.goto 4, 3) := by decide +kernel
theorem dX7_fits_30 : decode cX7_fits 30 = .ok (.iconst 0, 1) := by decide +kernel
theorem dX7_fits_31 : decode cX7_fits 31 = .ok (.ireturn, 1) := by decide +kernel
theorem dX7_lodges_0 : decode cX7_lodges 0 = .ok (.iload_n 1, 1) := by decide +kernel
theorem dX7_lodges_1 : decode cX7_lodges 1 = .ok (.iconst 0, 1) := by decide +kernel
theorem dX7_lodges_2 : decode cX7_lodges 2 = .ok (.aload_n 0, 1) := by decide +kernel
theorem dX7_lodges_3 : decode cX7_lodges 3 = .ok (.getfield 38, 3) := by decide +kernel
theorem dX7_lodges_6 : decode cX7_lodges 6 = .ok (.getfield 84, 3) := by decide +kernel
theorem dX7_lodges_9 : decode cX7_lodges 9 = .ok (.iconst 1, 1) := by decide +kernel
theorem dX7_lodges_10 : decode cX7_lodges 10 = .ok (.isub, 1) := by decide +kernel
theorem dX7_lodges_11 : decode cX7_lodges 11 = .ok (.invokestatic 96, 3) := by decide +kernel
theorem dX7_lodges_14 : decode cX7_lodges 14 = .ok (.ireturn, 1) := by decide +kernel
theorem dX7_isSheet_0 : decode cX7_isSheet 0 = .ok (.iload_n 0, 1) := by decide +kernel
theorem dX7_isSheet_1 : decode cX7_isSheet 1 = .ok (.iconst 0, 1) := by decide +kernel
theorem dX7_isSheet_2 : decode cX7_isSheet 2 = .ok (.iconst 3, 1) := by decide +kernel
theorem dX7_isSheet_3 : decode cX7_isSheet 3 = .ok (.invokestatic 96, 3) := by decide +kernel
theorem dX7_isSheet_6 : decode cX7_isSheet 6 = .ok (.ireturn, 1) := by decide +kernel
theorem dX7_isSlot_0 : decode cX7_isSlot 0 = .ok (.iload_n 0, 1) := by decide +kernel
theorem dX7_isSlot_1 : decode cX7_isSlot 1 = .ok (.iconst 0, 1) := by decide +kernel
theorem dX7_isSlot_2 : decode cX7_isSlot 2 = .ok (.iconst 4, 1) := by decide +kernel
theorem dX7_isSlot_3 : decode cX7_isSlot 3 = .ok (.invokestatic 96, 3) := by decide +kernel
theorem dX7_isSlot_6 : decode cX7_isSlot 6 = .ok (.ireturn, 1) := by decide +kernel
theorem dX7_refusalOfSheet_0 : decode cX7_refusalOfSheet 0 = .ok (.iload_n 1, 1) := by decide +kernel
theorem dX7_refusalOfSheet_1 : decode cX7_refusalOfSheet 1 = .ok (.invokestatic 183, 3) := by decide +kernel
theorem dX7_refusalOfSheet_4 : decode cX7_refusalOfSheet 4 = .ok (.ifCond .ne 6, 3) := by decide +kernel
theorem dX7_refusalOfSheet_7 : decode cX7_refusalOfSheet 7 = .ok (.ldc 83, 2) := by decide +kernel
theorem dX7_refusalOfSheet_9 : decode cX7_refusalOfSheet 9 = .ok (.ireturn, 1) := by decide +kernel
theorem dX7_refusalOfSheet_10 : decode cX7_refusalOfSheet 10 = .ok (.aload_n 0, 1) := by decide +kernel
theorem dX7_refusalOfSheet_11 : decode cX7_refusalOfSheet 11 = .ok (.getfield 67, 3) := by decide +kernel
theorem dX7_refusalOfSheet_14 : decode cX7_refusalOfSheet 14 = .ok (.iload_n 1, 1) := by decide +kernel
theorem dX7_refusalOfSheet_15 : decode cX7_refusalOfSheet 15 = .ok (.aaload, 1) := by decide +kernel
theorem dX7_refusalOfSheet_16 : decode cX7_refusalOfSheet 16 = .ok (.getfield 186, 3) := by decide +kernel
theorem dX7_refusalOfSheet_19 : decode cX7_refusalOfSheet 19 = .ok (.iconst (-1), 1) := by decide +kernel
theorem dX7_refusalOfSheet_20 : decode cX7_refusalOfSheet 20 = .ok (.if_icmp .ne 8, 3) := by decide +kernel
theorem dX7_refusalOfSheet_23 : decode cX7_refusalOfSheet 23 = .ok (.ldc 189, 2) := by decide +kernel
theorem dX7_refusalOfSheet_25 : decode cX7_refusalOfSheet 25 = .ok (.goto 4, 3) := by decide +kernel
theorem dX7_refusalOfSheet_28 : decode cX7_refusalOfSheet 28 = .ok (.iconst 0, 1) := by decide +kernel
theorem dX7_refusalOfSheet_29 : decode cX7_refusalOfSheet 29 = .ok (.ireturn, 1) := by decide +kernel
theorem dX7_refusalOfSlot_0 : decode cX7_refusalOfSlot 0 = .ok (.iload_n 1, 1) := by decide +kernel
theorem dX7_refusalOfSlot_1 : decode cX7_refusalOfSlot 1 = .ok (.invokestatic 258, 3) := by decide +kernel
theorem dX7_refusalOfSlot_4 : decode cX7_refusalOfSlot 4 = .ok (.ifCond .ne 6, 3) := by decide +kernel
theorem dX7_refusalOfSlot_7 : decode cX7_refusalOfSlot 7 = .ok (.ldc 83, 2) := by decide +kernel
theorem dX7_refusalOfSlot_9 : decode cX7_refusalOfSlot 9 = .ok (.ireturn, 1) := by decide +kernel
theorem dX7_refusalOfSlot_10 : decode cX7_refusalOfSlot 10 = .ok (.aload_n 0, 1) := by decide +kernel
theorem dX7_refusalOfSlot_11 : decode cX7_refusalOfSlot 11 = .ok (.getfield 73, 3) := by decide +kernel
theorem dX7_refusalOfSlot_14 : decode cX7_refusalOfSlot 14 = .ok (.iload_n 1, 1) := by decide +kernel
theorem dX7_refusalOfSlot_15 : decode cX7_refusalOfSlot 15 = .ok (.aaload, 1) := by decide +kernel
theorem dX7_refusalOfSlot_16 : decode cX7_refusalOfSlot 16 = .ok (.getfield 261, 3) := by decide +kernel
theorem dX7_refusalOfSlot_19 : decode cX7_refusalOfSlot 19 = .ok (.ifCond .ne 6, 3) := by decide +kernel
theorem dX7_refusalOfSlot_22 : decode cX7_refusalOfSlot 22 = .ok (.ldc 189, 2) := by decide +kernel
theorem dX7_refusalOfSlot_24 : decode cX7_refusalOfSlot 24 = .ok (.ireturn, 1) := by decide +kernel
theorem dX7_refusalOfSlot_25 : decode cX7_refusalOfSlot 25 = .ok (.aload_n 0, 1) := by decide +kernel
theorem dX7_refusalOfSlot_26 : decode cX7_refusalOfSlot 26 = .ok (.getfield 73, 3) := by decide +kernel
theorem dX7_refusalOfSlot_29 : decode cX7_refusalOfSlot 29 = .ok (.iload_n 1, 1) := by decide +kernel
theorem dX7_refusalOfSlot_30 : decode cX7_refusalOfSlot 30 = .ok (.aaload, 1) := by decide +kernel
theorem dX7_refusalOfSlot_31 : decode cX7_refusalOfSlot 31 = .ok (.getfield 261, 3) := by decide +kernel
theorem dX7_refusalOfSlot_34 : decode cX7_refusalOfSlot 34 = .ok (.iload_n 2, 1) := by decide +kernel
theorem dX7_refusalOfSlot_35 : decode cX7_refusalOfSlot 35 = .ok (.if_icmp .ne 7, 3) := by decide +kernel
theorem dX7_refusalOfSlot_38 : decode cX7_refusalOfSlot 38 = .ok (.iconst 0, 1) := by decide +kernel
theorem dX7_refusalOfSlot_39 : decode cX7_refusalOfSlot 39 = .ok (.goto 5, 3) := by decide +kernel
theorem dX7_refusalOfSlot_42 : decode cX7_refusalOfSlot 42 = .ok (.ldc 116, 2) := by decide +kernel
theorem dX7_refusalOfSlot_44 : decode cX7_refusalOfSlot 44 = .ok (.ireturn, 1) := by decide +kernel
theorem dX7_thinkOf_0 : decode cX7_thinkOf 0 = .ok (.aload_n 0, 1) := by decide +kernel
theorem dX7_thinkOf_1 : decode cX7_thinkOf 1 = .ok (.getfield 45, 3) := by decide +kernel
theorem dX7_thinkOf_4 : decode cX7_thinkOf 4 = .ok (.aload_n 0, 1) := by decide +kernel
theorem dX7_thinkOf_5 : decode cX7_thinkOf 5 = .ok (.getfield 38, 3) := by decide +kernel
theorem dX7_thinkOf_8 : decode cX7_thinkOf 8 = .ok (.invokevirtual 152, 3) := by decide +kernel
theorem dX7_thinkOf_11 : decode cX7_thinkOf 11 = .ok (.aload_n 0, 1) := by decide +kernel
theorem dX7_thinkOf_12 : decode cX7_thinkOf 12 = .ok (.getfield 45, 3) := by decide +kernel
theorem dX7_thinkOf_15 : decode cX7_thinkOf 15 = .ok (.iload_n 1, 1) := by decide +kernel
theorem dX7_thinkOf_16 : decode cX7_thinkOf 16 = .ok (.iload_n 2, 1) := by decide +kernel
theorem dX7_thinkOf_17 : decode cX7_thinkOf 17 = .ok (.iload_n 3, 1) := by decide +kernel
theorem dX7_thinkOf_18 : decode cX7_thinkOf 18 = .ok (.invokevirtual 117, 3) := by decide +kernel
theorem dX7_thinkOf_21 : decode cX7_thinkOf 21 = .ok (.pop, 1) := by decide +kernel
theorem dX7_thinkOf_22 : decode cX7_thinkOf 22 = .ok (.return_, 1) := by decide +kernel
theorem dX7_offerPurse_0 : decode cX7_offerPurse 0 = .ok (.aload_n 0, 1) := by decide +kernel
theorem dX7_offerPurse_1 : decode cX7_offerPurse 1 = .ok (.iload_n 1, 1) := by decide +kernel
theorem dX7_offerPurse_2 : decode cX7_offerPurse 2 = .ok (.iload_n 2, 1) := by decide +kernel
theorem dX7_offerPurse_3 : decode cX7_offerPurse 3 = .ok (.iload_n 3, 1) := by decide +kernel
theorem dX7_offerPurse_4 : decode cX7_offerPurse 4 = .ok (.invokevirtual 169, 3) := by decide +kernel
theorem dX7_offerPurse_7 : decode cX7_offerPurse 7 = .ok (.aload_n 0, 1) := by decide +kernel
theorem dX7_offerPurse_8 : decode cX7_offerPurse 8 = .ok (.getfield 45, 3) := by decide +kernel
theorem dX7_offerPurse_11 : decode cX7_offerPurse 11 = .ok (.iload 4, 2) := by decide +kernel
theorem dX7_offerPurse_13 : decode cX7_offerPurse 13 = .ok (.invokevirtual 141, 3) := by decide +kernel
theorem dX7_offerPurse_16 : decode cX7_offerPurse 16 = .ok (.pop, 1) := by decide +kernel
theorem dX7_offerPurse_17 : decode cX7_offerPurse 17 = .ok (.aload_n 0, 1) := by decide +kernel
theorem dX7_offerPurse_18 : decode cX7_offerPurse 18 = .ok (.getfield 55, 3) := by decide +kernel
theorem dX7_offerPurse_21 : decode cX7_offerPurse 21 = .ok (.iload_n 3, 1) := by decide +kernel
theorem dX7_offerPurse_22 : decode cX7_offerPurse 22 = .ok (.aload_n 0, 1) := by decide +kernel
theorem dX7_offerPurse_23 : decode cX7_offerPurse 23 = .ok (.getfield 45, 3) := by decide +kernel
theorem dX7_offerPurse_26 : decode cX7_offerPurse 26 = .ok (.getfield 100, 3) := by decide +kernel
theorem dX7_offerPurse_29 : decode cX7_offerPurse 29 = .ok (.bipush 6, 2) := by decide +kernel
theorem dX7_offerPurse_31 : decode cX7_offerPurse 31 = .ok (.aaload, 1) := by decide +kernel
theorem dX7_offerPurse_32 : decode cX7_offerPurse 32 = .ok (.iload_n 1, 1) := by decide +kernel
theorem dX7_offerPurse_33 : decode cX7_offerPurse 33 = .ok (.iaload, 1) := by decide +kernel
theorem dX7_offerPurse_34 : decode cX7_offerPurse 34 = .ok (.invokevirtual 159, 3) := by decide +kernel
theorem dX7_offerPurse_37 : decode cX7_offerPurse 37 = .ok (.return_, 1) := by decide +kernel
theorem dX7_differences_0 : decode cX7_differences 0 = .ok (.iconst 0, 1) := by decide +kernel
theorem dX7_differences_1 : decode cX7_differences 1 = .ok (.istore_n 3, 1) := by decide +kernel
theorem dX7_differences_2 : decode cX7_differences 2 = .ok (.iconst 0, 1) := by decide +kernel
theorem dX7_differences_3 : decode cX7_differences 3 = .ok (.istore 4, 2) := by decide +kernel
theorem dX7_differences_5 : decode cX7_differences 5 = .ok (.iload 4, 2) := by decide +kernel
theorem dX7_differences_7 : decode cX7_differences 7 = .ok (.aload_n 1, 1) := by decide +kernel
theorem dX7_differences_8 : decode cX7_differences 8 = .ok (.getfield 246, 3) := by decide +kernel
theorem dX7_differences_11 : decode cX7_differences 11 = .ok (.if_icmp .ge 51, 3) := by decide +kernel
theorem dX7_differences_14 : decode cX7_differences 14 = .ok (.aload_n 0, 1) := by decide +kernel
theorem dX7_differences_15 : decode cX7_differences 15 = .ok (.getfield 45, 3) := by decide +kernel
theorem dX7_differences_18 : decode cX7_differences 18 = .ok (.invokevirtual 180, 3) := by decide +kernel
theorem dX7_differences_21 : decode cX7_differences 21 = .ok (.pop, 1) := by decide +kernel
theorem dX7_differences_22 : decode cX7_differences 22 = .ok (.aload_n 1, 1) := by decide +kernel
theorem dX7_differences_23 : decode cX7_differences 23 = .ok (.iload 4, 2) := by decide +kernel
theorem dX7_differences_25 : decode cX7_differences 25 = .ok (.invokevirtual 240, 3) := by decide +kernel
theorem dX7_differences_28 : decode cX7_differences 28 = .ok (.ifCond .eq 28, 3) := by decide +kernel
theorem dX7_differences_31 : decode cX7_differences 31 = .ok (.iload_n 3, 1) := by decide +kernel
theorem dX7_differences_32 : decode cX7_differences 32 = .ok (.aload_n 0, 1) := by decide +kernel
theorem dX7_differences_33 : decode cX7_differences 33 = .ok (.getfield 45, 3) := by decide +kernel
theorem dX7_differences_36 : decode cX7_differences 36 = .ok (.getfield 100, 3) := by decide +kernel
theorem dX7_differences_39 : decode cX7_differences 39 = .ok (.iconst 5, 1) := by decide +kernel
theorem dX7_differences_40 : decode cX7_differences 40 = .ok (.aaload, 1) := by decide +kernel
theorem dX7_differences_41 : decode cX7_differences 41 = .ok (.iload_n 2, 1) := by decide +kernel
theorem dX7_differences_42 : decode cX7_differences 42 = .ok (.iaload, 1) := by decide +kernel
theorem dX7_differences_43 : decode cX7_differences 43 = .ok (.aload_n 1, 1) := by decide +kernel
theorem dX7_differences_44 : decode cX7_differences 44 = .ok (.getfield 235, 3) := by decide +kernel
theorem dX7_differences_47 : decode cX7_differences 47 = .ok (.iload 4, 2) := by decide +kernel
theorem dX7_differences_49 : decode cX7_differences 49 = .ok (.iaload, 1) := by decide +kernel
theorem dX7_differences_50 : decode cX7_differences 50 = .ok (.isub, 1) := by decide +kernel
theorem dX7_differences_51 : decode cX7_differences 51 = .ok (.invokestatic 290, 3) := by decide +kernel
theorem dX7_differences_54 : decode cX7_differences 54 = .ok (.iadd, 1) := by decide +kernel
theorem dX7_differences_55 : decode cX7_differences 55 = .ok (.istore_n 3, 1) := by decide +kernel
theorem dX7_differences_56 : decode cX7_differences 56 = .ok (.iinc 4 1, 3) := by decide +kernel
theorem dX7_differences_59 : decode cX7_differences 59 = .ok (.goto (-54), 3) := by decide +kernel
theorem dX7_differences_62 : decode cX7_differences 62 = .ok (.iload_n 3, 1) := by decide +kernel
theorem dX7_differences_63 : decode cX7_differences 63 = .ok (.ireturn, 1) := by decide +kernel
theorem dX7_putBytes_0 : decode cX7_putBytes 0 = .ok (.bipush 24, 2) := by decide +kernel
theorem dX7_putBytes_2 : decode cX7_putBytes 2 = .ok (.istore_n 2, 1) := by decide +kernel
theorem dX7_putBytes_3 : decode cX7_putBytes 3 = .ok (.iload_n 2, 1) := by decide +kernel
theorem dX7_putBytes_4 : decode cX7_putBytes 4 = .ok (.ifCond .lt 44, 3) := by decide +kernel
theorem dX7_putBytes_7 : decode cX7_putBytes 7 = .ok (.aload_n 0, 1) := by decide +kernel
theorem dX7_putBytes_8 : decode cX7_putBytes 8 = .ok (.getfield 13, 3) := by decide +kernel
theorem dX7_putBytes_11 : decode cX7_putBytes 11 = .ok (.bipush 96, 2) := by decide +kernel
theorem dX7_putBytes_13 : decode cX7_putBytes 13 = .ok (.if_icmp .ge 35, 3) := by decide +kernel
theorem dX7_putBytes_16 : decode cX7_putBytes 16 = .ok (.aload_n 0, 1) := by decide +kernel
theorem dX7_putBytes_17 : decode cX7_putBytes 17 = .ok (.getfield 9, 3) := by decide +kernel
theorem dX7_putBytes_20 : decode cX7_putBytes 20 = .ok (.aload_n 0, 1) := by decide +kernel
theorem dX7_putBytes_21 : decode cX7_putBytes 21 = .ok (.getfield 13, 3) := by decide +kernel
theorem dX7_putBytes_24 : decode cX7_putBytes 24 = .ok (.iload_n 1, 1) := by decide +kernel
theorem dX7_putBytes_25 : decode cX7_putBytes 25 = .ok (.iload_n 2, 1) := by decide +kernel
theorem dX7_putBytes_26 : decode cX7_putBytes 26 = .ok (.iushr, 1) := by decide +kernel
theorem dX7_putBytes_27 : decode cX7_putBytes 27 = .ok (.sipush 255, 3) := by decide +kernel
theorem dX7_putBytes_30 : decode cX7_putBytes 30 = .ok (.iand, 1) := by decide +kernel
theorem dX7_putBytes_31 : decode cX7_putBytes 31 = .ok (.iastore, 1) := by decide +kernel
theorem dX7_putBytes_32 : decode cX7_putBytes 32 = .ok (.aload_n 0, 1) := by decide +kernel
theorem dX7_putBytes_33 : decode cX7_putBytes 33 = .ok (.dup, 1) := by decide +kernel
theorem dX7_putBytes_34 : decode cX7_putBytes 34 = .ok (.getfield 13, 3) := by decide +kernel
theorem dX7_putBytes_37 : decode cX7_putBytes 37 = .ok (.iconst 1, 1) := by decide +kernel
theorem dX7_putBytes_38 : decode cX7_putBytes 38 = .ok (.iadd, 1) := by decide +kernel
theorem dX7_putBytes_39 : decode cX7_putBytes 39 = .ok (.putfield 13, 3) := by decide +kernel
theorem dX7_putBytes_42 : decode cX7_putBytes 42 = .ok (.iinc 2 (-8), 3) := by decide +kernel
theorem dX7_putBytes_45 : decode cX7_putBytes 45 = .ok (.goto (-42), 3) := by decide +kernel
theorem dX7_putBytes_48 : decode cX7_putBytes 48 = .ok (.return_, 1) := by decide +kernel
