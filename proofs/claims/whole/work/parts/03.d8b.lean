theorem dX8_longest_40 : decode cX8_longest 40 = .ok (.if_icmp .le 12, 3) := by decide +kernel
theorem dX8_longest_43 : decode cX8_longest 43 = .ok (.aload_n 0, 1) := by decide +kernel
theorem dX8_longest_44 : decode cX8_longest 44 = .ok (.iload_n 3, 1) := by decide +kernel
theorem dX8_longest_45 : decode cX8_longest 45 = .ok (.iconst 5, 1) := by decide +kernel
theorem dX8_longest_46 : decode cX8_longest 46 = .ok (.invokevirtual 96, 3) := by decide +kernel
theorem dX8_longest_49 : decode cX8_longest 49 = .ok (.goto 4, 3) := by decide +kernel
theorem dX8_longest_52 : decode cX8_longest 52 = .ok (.iload_n 2, 1) := by decide +kernel
theorem dX8_longest_53 : decode cX8_longest 53 = .ok (.istore_n 2, 1) := by decide +kernel
theorem dX8_longest_54 : decode cX8_longest 54 = .ok (.iinc 3 1, 3) := by decide +kernel
theorem dX8_longest_57 : decode cX8_longest 57 = .ok (.goto (-50), 3) := by decide +kernel
theorem dX8_longest_60 : decode cX8_longest 60 = .ok (.iload_n 1, 1) := by decide +kernel
theorem dX8_longest_61 : decode cX8_longest 61 = .ok (.ireturn, 1) := by decide +kernel
theorem dX8_thinks_0 : decode cX8_thinks 0 = .ok (.iconst 0, 1) := by decide +kernel
theorem dX8_thinks_1 : decode cX8_thinks 1 = .ok (.istore_n 1, 1) := by decide +kernel
theorem dX8_thinks_2 : decode cX8_thinks 2 = .ok (.iload_n 1, 1) := by decide +kernel
theorem dX8_thinks_3 : decode cX8_thinks 3 = .ok (.bipush 96, 2) := by decide +kernel
theorem dX8_thinks_5 : decode cX8_thinks 5 = .ok (.if_icmp .ge 21, 3) := by decide +kernel
theorem dX8_thinks_8 : decode cX8_thinks 8 = .ok (.aload_n 0, 1) := by decide +kernel
theorem dX8_thinks_9 : decode cX8_thinks 9 = .ok (.getfield 23, 3) := by decide +kernel
theorem dX8_thinks_12 : decode cX8_thinks 12 = .ok (.iload_n 1, 1) := by decide +kernel
theorem dX8_thinks_13 : decode cX8_thinks 13 = .ok (.aload_n 0, 1) := by decide +kernel
theorem dX8_thinks_14 : decode cX8_thinks 14 = .ok (.getfield 9, 3) := by decide +kernel
theorem dX8_thinks_17 : decode cX8_thinks 17 = .ok (.iload_n 1, 1) := by decide +kernel
theorem dX8_thinks_18 : decode cX8_thinks 18 = .ok (.iaload, 1) := by decide +kernel
theorem dX8_thinks_19 : decode cX8_thinks 19 = .ok (.iastore, 1) := by decide +kernel
theorem dX8_thinks_20 : decode cX8_thinks 20 = .ok (.iinc 1 1, 3) := by decide +kernel
theorem dX8_thinks_23 : decode cX8_thinks 23 = .ok (.goto (-21), 3) := by decide +kernel
theorem dX8_thinks_26 : decode cX8_thinks 26 = .ok (.return_, 1) := by decide +kernel
theorem dX8_putsBack_0 : decode cX8_putsBack 0 = .ok (.iconst 0, 1) := by decide +kernel
theorem dX8_putsBack_1 : decode cX8_putsBack 1 = .ok (.istore_n 1, 1) := by decide +kernel
theorem dX8_putsBack_2 : decode cX8_putsBack 2 = .ok (.iload_n 1, 1) := by decide +kernel
theorem dX8_putsBack_3 : decode cX8_putsBack 3 = .ok (.bipush 96, 2) := by decide +kernel
theorem dX8_putsBack_5 : decode cX8_putsBack 5 = .ok (.if_icmp .ge 21, 3) := by decide +kernel
theorem dX8_putsBack_8 : decode cX8_putsBack 8 = .ok (.aload_n 0, 1) := by decide +kernel
theorem dX8_putsBack_9 : decode cX8_putsBack 9 = .ok (.getfield 9, 3) := by decide +kernel
theorem dX8_putsBack_12 : decode cX8_putsBack 12 = .ok (.iload_n 1, 1) := by decide +kernel
theorem dX8_putsBack_13 : decode cX8_putsBack 13 = .ok (.aload_n 0, 1) := by decide +kernel
theorem dX8_putsBack_14 : decode cX8_putsBack 14 = .ok (.getfield 23, 3) := by decide +kernel
theorem dX8_putsBack_17 : decode cX8_putsBack 17 = .ok (.iload_n 1, 1) := by decide +kernel
theorem dX8_putsBack_18 : decode cX8_putsBack 18 = .ok (.iaload, 1) := by decide +kernel
theorem dX8_putsBack_19 : decode cX8_putsBack 19 = .ok (.iastore, 1) := by decide +kernel
theorem dX8_putsBack_20 : decode cX8_putsBack 20 = .ok (.iinc 1 1, 3) := by decide +kernel
theorem dX8_putsBack_23 : decode cX8_putsBack 23 = .ok (.goto (-21), 3) := by decide +kernel
theorem dX8_putsBack_26 : decode cX8_putsBack 26 = .ok (.return_, 1) := by decide +kernel
theorem dX8_behind_0 : decode cX8_behind 0 = .ok (.iload_n 1, 1) := by decide +kernel
theorem dX8_behind_1 : decode cX8_behind 1 = .ok (.iconst 0, 1) := by decide +kernel
theorem dX8_behind_2 : decode cX8_behind 2 = .ok (.bipush 100, 2) := by decide +kernel
theorem dX8_behind_4 : decode cX8_behind 4 = .ok (.invokestatic 78, 3) := by decide +kernel
theorem dX8_behind_7 : decode cX8_behind 7 = .ok (.ifCond .eq 22, 3) := by decide +kernel
theorem dX8_behind_10 : decode cX8_behind 10 = .ok (.iload_n 2, 1) := by decide +kernel
theorem dX8_behind_11 : decode cX8_behind 11 = .ok (.ifCond .lt 18, 3) := by decide +kernel
theorem dX8_behind_14 : decode cX8_behind 14 = .ok (.iload_n 2, 1) := by decide +kernel
theorem dX8_behind_15 : decode cX8_behind 15 = .ok (.iconst 2, 1) := by decide +kernel
theorem dX8_behind_16 : decode cX8_behind 16 = .ok (.if_icmp .le 16, 3) := by decide +kernel
theorem dX8_behind_19 : decode cX8_behind 19 = .ok (.aload_n 0, 1) := by decide +kernel
theorem dX8_behind_20 : decode cX8_behind 20 = .ok (.iload_n 2, 1) := by decide +kernel
theorem dX8_behind_21 : decode cX8_behind 21 = .ok (.iconst 3, 1) := by decide +kernel
theorem dX8_behind_22 : decode cX8_behind 22 = .ok (.isub, 1) := by decide +kernel
theorem dX8_behind_23 : decode cX8_behind 23 = .ok (.invokevirtual 100, 3) := by decide +kernel
theorem dX8_behind_26 : decode cX8_behind 26 = .ok (.ifCond .ne 6, 3) := by decide +kernel
theorem dX8_behind_29 : decode cX8_behind 29 = .ok (.ldc 90, 2) := by decide +kernel
theorem dX8_behind_31 : decode cX8_behind 31 = .ok (.ireturn, 1) := by decide +kernel
theorem dX8_behind_32 : decode cX8_behind 32 = .ok (.aload_n 0, 1) := by decide +kernel
theorem dX8_behind_33 : decode cX8_behind 33 = .ok (.invokevirtual 168, 3) := by decide +kernel
theorem dX8_behind_36 : decode cX8_behind 36 = .ok (.aload_n 0, 1) := by decide +kernel
theorem dX8_behind_37 : decode cX8_behind 37 = .ok (.iload_n 1, 1) := by decide +kernel
theorem dX8_behind_38 : decode cX8_behind 38 = .ok (.invokevirtual 158, 3) := by decide +kernel
theorem dX8_behind_41 : decode cX8_behind 41 = .ok (.istore_n 3, 1) := by decide +kernel
theorem dX8_behind_42 : decode cX8_behind 42 = .ok (.iload_n 2, 1) := by decide +kernel
theorem dX8_behind_43 : decode cX8_behind 43 = .ok (.iconst 2, 1) := by decide +kernel
theorem dX8_behind_44 : decode cX8_behind 44 = .ok (.if_icmp .le 15, 3) := by decide +kernel
theorem dX8_behind_47 : decode cX8_behind 47 = .ok (.aload_n 0, 1) := by decide +kernel
theorem dX8_behind_48 : decode cX8_behind 48 = .ok (.iload_n 2, 1) := by decide +kernel
theorem dX8_behind_49 : decode cX8_behind 49 = .ok (.iconst 3, 1) := by decide +kernel
theorem dX8_behind_50 : decode cX8_behind 50 = .ok (.isub, 1) := by decide +kernel
theorem dX8_behind_51 : decode cX8_behind 51 = .ok (.bipush 6, 2) := by decide +kernel
theorem dX8_behind_53 : decode cX8_behind 53 = .ok (.invokevirtual 96, 3) := by decide +kernel
theorem dX8_behind_56 : decode cX8_behind 56 = .ok (.goto 28, 3) := by decide +kernel
theorem dX8_behind_59 : decode cX8_behind 59 = .ok (.aload_n 0, 1) := by decide +kernel
theorem dX8_behind_60 : decode cX8_behind 60 = .ok (.iload_n 2, 1) := by decide +kernel
theorem dX8_behind_61 : decode cX8_behind 61 = .ok (.ifCond .ne 8, 3) := by decide +kernel
theorem dX8_behind_64 : decode cX8_behind 64 = .ok (.bipush 7, 2) := by decide +kernel
theorem dX8_behind_66 : decode cX8_behind 66 = .ok (.goto 15, 3) := by decide +kernel
theorem dX8_behind_69 : decode cX8_behind 69 = .ok (.iload_n 2, 1) := by decide +kernel
theorem dX8_behind_70 : decode cX8_behind 70 = .ok (.iconst 1, 1) := by decide +kernel
theorem dX8_behind_71 : decode cX8_behind 71 = .ok (.if_icmp .ne 8, 3) := by decide +kernel
theorem dX8_behind_74 : decode cX8_behind 74 = .ok (.bipush 6, 2) := by decide +kernel
theorem dX8_behind_76 : decode cX8_behind 76 = .ok (.goto 5, 3) := by decide +kernel
theorem dX8_behind_79 : decode cX8_behind 79 = .ok (.bipush 8, 2) := by decide +kernel
theorem dX8_behind_81 : decode cX8_behind 81 = .ok (.invokevirtual 161, 3) := by decide +kernel
theorem dX8_behind_84 : decode cX8_behind 84 = .ok (.istore 4, 2) := by decide +kernel
theorem dX8_behind_86 : decode cX8_behind 86 = .ok (.aload_n 0, 1) := by decide +kernel
theorem dX8_behind_87 : decode cX8_behind 87 = .ok (.invokevirtual 171, 3) := by decide +kernel
theorem dX8_behind_90 : decode cX8_behind 90 = .ok (.iload 4, 2) := by decide +kernel
theorem dX8_behind_92 : decode cX8_behind 92 = .ok (.ireturn, 1) := by decide +kernel
theorem dX8_bestLaw_0 : decode cX8_bestLaw 0 = .ok (.iload_n 1, 1) := by decide +kernel
theorem dX8_bestLaw_1 : decode cX8_bestLaw 1 = .ok (.iconst 1, 1) := by decide +kernel
theorem dX8_bestLaw_2 : decode cX8_bestLaw 2 = .ok (.bipush 60, 2) := by decide +kernel
theorem dX8_bestLaw_4 : decode cX8_bestLaw 4 = .ok (.invokestatic 78, 3) := by decide +kernel
theorem dX8_bestLaw_7 : decode cX8_bestLaw 7 = .ok (.ifCond .eq 12, 3) := by decide +kernel
theorem dX8_bestLaw_10 : decode cX8_bestLaw 10 = .ok (.iload_n 2, 1) := by decide +kernel
theorem dX8_bestLaw_11 : decode cX8_bestLaw 11 = .ok (.iconst 0, 1) := by decide +kernel
theorem dX8_bestLaw_12 : decode cX8_bestLaw 12 = .ok (.iconst 1, 1) := by decide +kernel
theorem dX8_bestLaw_13 : decode cX8_bestLaw 13 = .ok (.invokestatic 78, 3) := by decide +kernel
theorem dX8_bestLaw_16 : decode cX8_bestLaw 16 = .ok (.ifCond .ne 6, 3) := by decide +kernel
theorem dX8_bestLaw_19 : decode cX8_bestLaw 19 = .ok (.ldc 90, 2) := by decide +kernel
theorem dX8_bestLaw_21 : decode cX8_bestLaw 21 = .ok (.ireturn, 1) := by decide +kernel
theorem dX8_bestLaw_22 : decode cX8_bestLaw 22 = .ok (.aload_n 0, 1) := by decide +kernel
theorem dX8_bestLaw_23 : decode cX8_bestLaw 23 = .ok (.invokevirtual 168, 3) := by decide +kernel
theorem dX8_bestLaw_26 : decode cX8_bestLaw 26 = .ok (.iconst (-1), 1) := by decide +kernel
theorem dX8_bestLaw_27 : decode cX8_bestLaw 27 = .ok (.istore_n 3, 1) := by decide +kernel
theorem dX8_bestLaw_28 : decode cX8_bestLaw 28 = .ok (.iconst (-1), 1) := by decide +kernel
theorem dX8_bestLaw_29 : decode cX8_bestLaw 29 = .ok (.istore 4, 2) := by decide +kernel
theorem dX8_bestLaw_31 : decode cX8_bestLaw 31 = .ok (.iconst 0, 1) := by decide +kernel
theorem dX8_bestLaw_32 : decode cX8_bestLaw 32 = .ok (.istore 5, 2) := by decide +kernel
theorem dX8_bestLaw_34 : decode cX8_bestLaw 34 = .ok (.iload 5, 2) := by decide +kernel
theorem dX8_bestLaw_36 : decode cX8_bestLaw 36 = .ok (.iconst 4, 1) := by decide +kernel
theorem dX8_bestLaw_37 : decode cX8_bestLaw 37 = .ok (.if_icmp .ge 66, 3) := by decide +kernel
theorem dX8_bestLaw_40 : decode cX8_bestLaw 40 = .ok (.aload_n 0, 1) := by decide +kernel
theorem dX8_bestLaw_41 : decode cX8_bestLaw 41 = .ok (.getfield 9, 3) := by decide +kernel
theorem dX8_bestLaw_44 : decode cX8_bestLaw 44 = .ok (.iconst 3, 1) := by decide +kernel
theorem dX8_bestLaw_45 : decode cX8_bestLaw 45 = .ok (.iload 5, 2) := by decide +kernel
theorem dX8_bestLaw_47 : decode cX8_bestLaw 47 = .ok (.iastore, 1) := by decide +kernel
theorem dX8_bestLaw_48 : decode cX8_bestLaw 48 = .ok (.aload_n 0, 1) := by decide +kernel
theorem dX8_bestLaw_49 : decode cX8_bestLaw 49 = .ok (.iload_n 1, 1) := by decide +kernel
theorem dX8_bestLaw_50 : decode cX8_bestLaw 50 = .ok (.invokevirtual 158, 3) := by decide +kernel
theorem dX8_bestLaw_53 : decode cX8_bestLaw 53 = .ok (.istore 6, 2) := by decide +kernel
theorem dX8_bestLaw_55 : decode cX8_bestLaw 55 = .ok (.aload_n 0, 1) := by decide +kernel
theorem dX8_bestLaw_56 : decode cX8_bestLaw 56 = .ok (.bipush 7, 2) := by decide +kernel
theorem dX8_bestLaw_58 : decode cX8_bestLaw 58 = .ok (.invokevirtual 161, 3) := by decide +kernel
theorem dX8_bestLaw_61 : decode cX8_bestLaw 61 = .ok (.istore 7, 2) := by decide +kernel
theorem dX8_bestLaw_63 : decode cX8_bestLaw 63 = .ok (.aload_n 0, 1) := by decide +kernel
theorem dX8_bestLaw_64 : decode cX8_bestLaw 64 = .ok (.invokevirtual 171, 3) := by decide +kernel
theorem dX8_bestLaw_67 : decode cX8_bestLaw 67 = .ok (.iload 7, 2) := by decide +kernel
theorem dX8_bestLaw_69 : decode cX8_bestLaw 69 = .ok (.iload 4, 2) := by decide +kernel
theorem dX8_bestLaw_71 : decode cX8_bestLaw 71 = .ok (.if_icmp .le 8, 3) := by decide +kernel
theorem dX8_bestLaw_74 : decode cX8_bestLaw 74 = .ok (.iload 5, 2) := by decide +kernel
theorem dX8_bestLaw_76 : decode cX8_bestLaw 76 = .ok (.goto 4, 3) := by decide +kernel
theorem dX8_bestLaw_79 : decode cX8_bestLaw 79 = .ok (.iload_n 3, 1) := by decide +kernel
theorem dX8_bestLaw_80 : decode cX8_bestLaw 80 = .ok (.istore_n 3, 1) := by decide +kernel
theorem dX8_bestLaw_81 : decode cX8_bestLaw 81 = .ok (.iload 7, 2) := by decide +kernel
theorem dX8_bestLaw_83 : decode cX8_bestLaw 83 = .ok (.iload 4, 2) := by decide +kernel
theorem dX8_bestLaw_85 : decode cX8_bestLaw 85 = .ok (.if_icmp .le 8, 3) := by decide +kernel
theorem dX8_bestLaw_88 : decode cX8_bestLaw 88 = .ok (.iload 7, 2) := by decide +kernel
theorem dX8_bestLaw_90 : decode cX8_bestLaw 90 = .ok (.goto 5, 3) := by decide +kernel
theorem dX8_bestLaw_93 : decode cX8_bestLaw 93 = .ok (.iload 4, 2) := by decide +kernel
theorem dX8_bestLaw_95 : decode cX8_bestLaw 95 = .ok (.istore 4, 2) := by decide +kernel
theorem dX8_bestLaw_97 : decode cX8_bestLaw 97 = .ok (.iinc 5 1, 3) := by decide +kernel
theorem dX8_bestLaw_100 : decode cX8_bestLaw 100 = .ok (.goto (-66), 3) := by decide +kernel
theorem dX8_bestLaw_103 : decode cX8_bestLaw 103 = .ok (.iload_n 2, 1) := by decide +kernel
theorem dX8_bestLaw_104 : decode cX8_bestLaw 104 = .ok (.ifCond .ne 7, 3) := by decide +kernel
theorem dX8_bestLaw_107 : decode cX8_bestLaw 107 = .ok (.iload_n 3, 1) := by decide +kernel
theorem dX8_bestLaw_108 : decode cX8_bestLaw 108 = .ok (.goto 5, 3) := by decide +kernel
theorem dX8_bestLaw_111 : decode cX8_bestLaw 111 = .ok (.iload 4, 2) := by decide +kernel
theorem dX8_bestLaw_113 : decode cX8_bestLaw 113 = .ok (.ireturn, 1) := by decide +kernel
theorem dX8_bedtime_0 : decode cX8_bedtime 0 = .ok (.aload_n 0, 1) := by decide +kernel
theorem dX8_bedtime_1 : decode cX8_bedtime 1 = .ok (.iload_n 1, 1) := by decide +kernel
theorem dX8_bedtime_2 : decode cX8_bedtime 2 = .ok (.invokevirtual 100, 3) := by decide +kernel
theorem dX8_bedtime_5 : decode cX8_bedtime 5 = .ok (.ifCond .eq 22, 3) := by decide +kernel
theorem dX8_bedtime_8 : decode cX8_bedtime 8 = .ok (.iload_n 2, 1) := by decide +kernel
theorem dX8_bedtime_9 : decode cX8_bedtime 9 = .ok (.iconst 1, 1) := by decide +kernel
theorem dX8_bedtime_10 : decode cX8_bedtime 10 = .ok (.bipush 40, 2) := by decide +kernel
theorem dX8_bedtime_12 : decode cX8_bedtime 12 = .ok (.invokestatic 78, 3) := by decide +kernel
theorem dX8_bedtime_15 : decode cX8_bedtime 15 = .ok (.ifCond .eq 12, 3) := by decide +kernel
theorem dX8_bedtime_18 : decode cX8_bedtime 18 = .ok (.iload_n 3, 1) := by decide +kernel
theorem dX8_bedtime_19 : decode cX8_bedtime 19 = .ok (.iconst 0, 1) := by decide +kernel
theorem dX8_bedtime_20 : decode cX8_bedtime 20 = .ok (.iconst 1, 1) := by decide +kernel
theorem dX8_bedtime_21 : decode cX8_bedtime 21 = .ok (.invokestatic 78, 3) := by decide +kernel
theorem dX8_bedtime_24 : decode cX8_bedtime 24 = .ok (.ifCond .ne 6, 3) := by decide +kernel
theorem dX8_bedtime_27 : decode cX8_bedtime 27 = .ok (.ldc 90, 2) := by decide +kernel
theorem dX8_bedtime_29 : decode cX8_bedtime 29 = .ok (.ireturn, 1) := by decide +kernel
theorem dX8_bedtime_30 : decode cX8_bedtime 30 = .ok (.aload_n 0, 1) := by decide +kernel
theorem dX8_bedtime_31 : decode cX8_bedtime 31 = .ok (.invokevirtual 168, 3) := by decide +kernel
theorem dX8_bedtime_34 : decode cX8_bedtime 34 = .ok (.iconst (-1), 1) := by decide +kernel
theorem dX8_bedtime_35 : decode cX8_bedtime 35 = .ok (.istore 4, 2) := by decide +kernel
theorem dX8_bedtime_37 : decode cX8_bedtime 37 = .ok (.iconst 0, 1) := by decide +kernel
theorem dX8_bedtime_38 : decode cX8_bedtime 38 = .ok (.istore 5, 2) := by decide +kernel
theorem dX8_bedtime_40 : decode cX8_bedtime 40 = .ok (.iconst 0, 1) := by decide +kernel
theorem dX8_bedtime_41 : decode cX8_bedtime 41 = .ok (.istore 6, 2) := by decide +kernel
theorem dX8_bedtime_43 : decode cX8_bedtime 43 = .ok (.iload 6, 2) := by decide +kernel
theorem dX8_bedtime_45 : decode cX8_bedtime 45 = .ok (.sipush 580, 3) := by decide +kernel
theorem dX8_bedtime_48 : decode cX8_bedtime 48 = .ok (.if_icmp .gt 65, 3) := by decide +kernel
theorem dX8_bedtime_51 : decode cX8_bedtime 51 = .ok (.aload_n 0, 1) := by decide +kernel
theorem dX8_bedtime_52 : decode cX8_bedtime 52 = .ok (.iload_n 1, 1) := by decide +kernel
theorem dX8_bedtime_53 : decode cX8_bedtime 53 = .ok (.iconst 2, 1) := by decide +kernel
theorem dX8_bedtime_54 : decode cX8_bedtime 54 = .ok (.iload 6, 2) := by decide +kernel
theorem dX8_bedtime_56 : decode cX8_bedtime 56 = .ok (.invokevirtual 82, 3) := by decide +kernel
theorem dX8_bedtime_59 : decode cX8_bedtime 59 = .ok (.aload_n 0, 1) := by decide +kernel
theorem dX8_bedtime_60 : decode cX8_bedtime 60 = .ok (.iload_n 2, 1) := by decide +kernel
theorem dX8_bedtime_61 : decode cX8_bedtime 61 = .ok (.invokevirtual 158, 3) := by decide +kernel
theorem dX8_bedtime_64 : decode cX8_bedtime 64 = .ok (.istore 7, 2) := by decide +kernel
theorem dX8_bedtime_66 : decode cX8_bedtime 66 = .ok (.aload_n 0, 1) := by decide +kernel
theorem dX8_bedtime_67 : decode cX8_bedtime 67 = .ok (.iload_n 1, 1) := by decide +kernel
theorem dX8_bedtime_68 : decode cX8_bedtime 68 = .ok (.bipush 7, 2) := by decide +kernel
theorem dX8_bedtime_70 : decode cX8_bedtime 70 = .ok (.invokevirtual 96, 3) := by decide +kernel
theorem dX8_bedtime_73 : decode cX8_bedtime 73 = .ok (.aload_n 0, 1) := by decide +kernel
theorem dX8_bedtime_74 : decode cX8_bedtime 74 = .ok (.iload_n 1, 1) := by decide +kernel
theorem dX8_bedtime_75 : decode cX8_bedtime 75 = .ok (.bipush 6, 2) := by decide +kernel
theorem dX8_bedtime_77 : decode cX8_bedtime 77 = .ok (.invokevirtual 96, 3) := by decide +kernel
theorem dX8_bedtime_80 : decode cX8_bedtime 80 = .ok (.iadd, 1) := by decide +kernel
theorem dX8_bedtime_81 : decode cX8_bedtime 81 = .ok (.istore 8, 2) := by decide +kernel
theorem dX8_bedtime_83 : decode cX8_bedtime 83 = .ok (.aload_n 0, 1) := by decide +kernel
theorem dX8_bedtime_84 : decode cX8_bedtime 84 = .ok (.invokevirtual 171, 3) := by decide +kernel
theorem dX8_bedtime_87 : decode cX8_bedtime 87 = .ok (.iload 4, 2) := by decide +kernel
theorem dX8_bedtime_89 : decode cX8_bedtime 89 = .ok (.ifCond .lt 10, 3) := by decide +kernel
theorem dX8_bedtime_92 : decode cX8_bedtime 92 = .ok (.iload 8, 2) := by decide +kernel
theorem dX8_bedtime_94 : decode cX8_bedtime 94 = .ok (.iload 5, 2) := by decide +kernel
theorem dX8_bedtime_96 : decode cX8_bedtime 96 = .ok (.if_icmp .le 11, 3) := by decide +kernel
theorem dX8_bedtime_99 : decode cX8_bedtime 99 = .ok (.iload 6, 2) := by decide +kernel
theorem dX8_bedtime_101 : decode cX8_bedtime 101 = .ok (.istore 4, 2) := by decide +kernel
theorem dX8_bedtime_103 : decode cX8_bedtime 103 = .ok (.iload 8, 2) := by decide +kernel
theorem dX8_bedtime_105 : decode cX8_bedtime 105 = .ok (.istore 5, 2) := by decide +kernel
theorem dX8_bedtime_107 : decode cX8_bedtime 107 = .ok (.iinc 6 20, 3) := by decide +kernel
theorem dX8_bedtime_110 : decode cX8_bedtime 110 = .ok (.goto (-67), 3) := by decide +kernel
theorem dX8_bedtime_113 : decode cX8_bedtime 113 = .ok (.iload_n 3, 1) := by decide +kernel
theorem dX8_bedtime_114 : decode cX8_bedtime 114 = .ok (.ifCond .ne 8, 3) := by decide +kernel
theorem dX8_bedtime_117 : decode cX8_bedtime 117 = .ok (.iload 4, 2) := by decide +kernel
theorem dX8_bedtime_119 : decode cX8_bedtime 119 = .ok (.goto 5, 3) := by decide +kernel
theorem dX8_bedtime_122 : decode cX8_bedtime 122 = .ok (.iload 5, 2) := by decide +kernel
theorem dX8_bedtime_124 : decode cX8_bedtime 124 = .ok (.ireturn, 1) := by decide +kernel
theorem dX8_purseBy_0 : decode cX8_purseBy 0 = .ok (.aload_n 0, 1) := by decide +kernel
theorem dX8_purseBy_1 : decode cX8_purseBy 1 = .ok (.iload_n 1, 1) := by decide +kernel
theorem dX8_purseBy_2 : decode cX8_purseBy 2 = .ok (.iload_n 2, 1) := by decide +kernel
theorem dX8_purseBy_3 : decode cX8_purseBy 3 = .ok (.iload_n 3, 1) := by decide +kernel
theorem dX8_purseBy_4 : decode cX8_purseBy 4 = .ok (.invokevirtual 82, 3) := by decide +kernel
theorem dX8_purseBy_7 : decode cX8_purseBy 7 = .ok (.aload_n 0, 1) := by decide +kernel
theorem dX8_purseBy_8 : decode cX8_purseBy 8 = .ok (.iload 4, 2) := by decide +kernel
theorem dX8_purseBy_10 : decode cX8_purseBy 10 = .ok (.invokevirtual 158, 3) := by decide +kernel
theorem dX8_purseBy_13 : decode cX8_purseBy 13 = .ok (.istore 5, 2) := by decide +kernel
theorem dX8_purseBy_15 : decode cX8_purseBy 15 = .ok (.aload_n 0, 1) := by decide +kernel
theorem dX8_purseBy_16 : decode cX8_purseBy 16 = .ok (.iload_n 1, 1) := by decide +kernel
theorem dX8_purseBy_17 : decode cX8_purseBy 17 = .ok (.bipush 6, 2) := by decide +kernel
theorem dX8_purseBy_19 : decode cX8_purseBy 19 = .ok (.invokevirtual 96, 3) := by decide +kernel
theorem dX8_purseBy_22 : decode cX8_purseBy 22 = .ok (.istore 6, 2) := by decide +kernel
theorem dX8_purseBy_24 : decode cX8_purseBy 24 = .ok (.aload_n 0, 1) := by decide +kernel
theorem dX8_purseBy_25 : decode cX8_purseBy 25 = .ok (.invokevirtual 171, 3) := by decide +kernel
theorem dX8_purseBy_28 : decode cX8_purseBy 28 = .ok (.iload 6, 2) := by decide +kernel
theorem dX8_purseBy_30 : decode cX8_purseBy 30 = .ok (.ireturn, 1) := by decide +kernel
theorem dX8_wrong_0 : decode cX8_wrong 0 = .ok (.aload_n 0, 1) := by decide +kernel
theorem dX8_wrong_1 : decode cX8_wrong 1 = .ok (.iload_n 1, 1) := by decide +kernel
theorem dX8_wrong_2 : decode cX8_wrong 2 = .ok (.invokevirtual 100, 3) := by decide +kernel
theorem dX8_wrong_5 : decode cX8_wrong 5 = .ok (.ifCond .eq 22, 3) := by decide +kernel
theorem dX8_wrong_8 : decode cX8_wrong 8 = .ok (.iload_n 2, 1) := by decide +kernel
theorem dX8_wrong_9 : decode cX8_wrong 9 = .ok (.iconst 1, 1) := by decide +kernel
theorem dX8_wrong_10 : decode cX8_wrong 10 = .ok (.bipush 40, 2) := by decide +kernel
theorem dX8_wrong_12 : decode cX8_wrong 12 = .ok (.invokestatic 78, 3) := by decide +kernel
theorem dX8_wrong_15 : decode cX8_wrong 15 = .ok (.ifCond .eq 12, 3) := by decide +kernel
theorem dX8_wrong_18 : decode cX8_wrong 18 = .ok (.iload_n 3, 1) := by decide +kernel
theorem dX8_wrong_19 : decode cX8_wrong 19 = .ok (.iconst 0, 1) := by decide +kernel
theorem dX8_wrong_20 : decode cX8_wrong 20 = .ok (.iconst 1, 1) := by decide +kernel
theorem dX8_wrong_21 : decode cX8_wrong 21 = .ok (.invokestatic 78, 3) := by decide +kernel
theorem dX8_wrong_24 : decode cX8_wrong 24 = .ok (.ifCond .ne 6, 3) := by decide +kernel
theorem dX8_wrong_27 : decode cX8_wrong 27 = .ok (.ldc 90, 2) := by decide +kernel
theorem dX8_wrong_29 : decode cX8_wrong 29 = .ok (.ireturn, 1) := by decide +kernel
theorem dX8_wrong_30 : decode cX8_wrong 30 = .ok (.aload_n 0, 1) := by decide +kernel
theorem dX8_wrong_31 : decode cX8_wrong 31 = .ok (.invokevirtual 168, 3) := by decide +kernel
theorem dX8_wrong_34 : decode cX8_wrong 34 = .ok (.iconst 0, 1) := by decide +kernel
theorem dX8_wrong_35 : decode cX8_wrong 35 = .ok (.istore 4, 2) := by decide +kernel
theorem dX8_wrong_37 : decode cX8_wrong 37 = .ok (.aload_n 0, 1) := by decide +kernel
theorem dX8_wrong_38 : decode cX8_wrong 38 = .ok (.iload_n 1, 1) := by decide +kernel
theorem dX8_wrong_39 : decode cX8_wrong 39 = .ok (.iconst 3, 1) := by decide +kernel
theorem dX8_wrong_40 : decode cX8_wrong 40 = .ok (.iconst 0, 1) := by decide +kernel
theorem dX8_wrong_41 : decode cX8_wrong 41 = .ok (.iload_n 2, 1) := by decide +kernel
theorem dX8_wrong_42 : decode cX8_wrong 42 = .ok (.invokevirtual 174, 3) := by decide +kernel
theorem dX8_wrong_45 : decode cX8_wrong 45 = .ok (.istore 5, 2) := by decide +kernel
theorem dX8_wrong_47 : decode cX8_wrong 47 = .ok (.bipush 10, 2) := by decide +kernel
theorem dX8_wrong_49 : decode cX8_wrong 49 = .ok (.istore 6, 2) := by decide +kernel
theorem dX8_wrong_51 : decode cX8_wrong 51 = .ok (.iload 6, 2) := by decide +kernel
theorem dX8_wrong_53 : decode cX8_wrong 53 = .ok (.bipush 60, 2) := by decide +kernel
theorem dX8_wrong_55 : decode cX8_wrong 55 = .ok (.if_icmp .gt 97, 3) := by decide +kernel
theorem dX8_wrong_58 : decode cX8_wrong 58 = .ok (.aload_n 0, 1) := by decide +kernel
theorem dX8_wrong_59 : decode cX8_wrong 59 = .ok (.iload_n 1, 1) := by decide +kernel
theorem dX8_wrong_60 : decode cX8_wrong 60 = .ok (.iconst 3, 1) := by decide +kernel
theorem dX8_wrong_61 : decode cX8_wrong 61 = .ok (.iload 6, 2) := by decide +kernel
theorem dX8_wrong_63 : decode cX8_wrong 63 = .ok (.ineg, 1) := by decide +kernel
theorem dX8_wrong_64 : decode cX8_wrong 64 = .ok (.iload_n 2, 1) := by decide +kernel
theorem dX8_wrong_65 : decode cX8_wrong 65 = .ok (.invokevirtual 174, 3) := by decide +kernel
theorem dX8_wrong_68 : decode cX8_wrong 68 = .ok (.istore 7, 2) := by decide +kernel
theorem dX8_wrong_70 : decode cX8_wrong 70 = .ok (.iload 7, 2) := by decide +kernel
theorem dX8_wrong_72 : decode cX8_wrong 72 = .ok (.iload 5, 2) := by decide +kernel
theorem dX8_wrong_74 : decode cX8_wrong 74 = .ok (.if_icmp .le 9, 3) := by decide +kernel
theorem dX8_wrong_77 : decode cX8_wrong 77 = .ok (.iload 6, 2) := by decide +kernel
theorem dX8_wrong_79 : decode cX8_wrong 79 = .ok (.ineg, 1) := by decide +kernel
theorem dX8_wrong_80 : decode cX8_wrong 80 = .ok (.goto 5, 3) := by decide +kernel
theorem dX8_wrong_83 : decode cX8_wrong 83 = .ok (.iload 4, 2) := by decide +kernel
theorem dX8_wrong_85 : decode cX8_wrong 85 = .ok (.istore 4, 2) := by decide +kernel
theorem dX8_wrong_87 : decode cX8_wrong 87 = .ok (.iload 7, 2) := by decide +kernel
theorem dX8_wrong_89 : decode cX8_wrong 89 = .ok (.iload 5, 2) := by decide +kernel
theorem dX8_wrong_91 : decode cX8_wrong 91 = .ok (.if_icmp .le 8, 3) := by decide +kernel
theorem dX8_wrong_94 : decode cX8_wrong 94 = .ok (.iload 7, 2) := by decide +kernel
theorem dX8_wrong_96 : decode cX8_wrong 96 = .ok (.goto 5, 3) := by decide +kernel
theorem dX8_wrong_99 : decode cX8_wrong 99 = .ok (.iload 5, 2) := by decide +kernel
theorem dX8_wrong_101 : decode cX8_wrong 101 = .ok (.istore 5, 2) := by decide +kernel
theorem dX8_wrong_103 : decode cX8_wrong 103 = .ok (.aload_n 0, 1) := by decide +kernel
theorem dX8_wrong_104 : decode cX8_wrong 104 = .ok (.iload_n 1, 1) := by decide +kernel
theorem dX8_wrong_105 : decode cX8_wrong 105 = .ok (.iconst 3, 1) := by decide +kernel
theorem dX8_wrong_106 : decode cX8_wrong 106 = .ok (.iload 6, 2) := by decide +kernel
theorem dX8_wrong_108 : decode cX8_wrong 108 = .ok (.iload_n 2, 1) := by decide +kernel
theorem dX8_wrong_109 : decode cX8_wrong 109 = .ok (.invokevirtual 174, 3) := by decide +kernel
theorem dX8_wrong_112 : decode cX8_wrong 112 = .ok (.istore 8, 2) := by decide +kernel
theorem dX8_wrong_114 : decode cX8_wrong 114 = .ok (.iload 8, 2) := by decide +kernel
theorem dX8_wrong_116 : decode cX8_wrong 116 = .ok (.iload 5, 2) := by decide +kernel
theorem dX8_wrong_118 : decode cX8_wrong 118 = .ok (.if_icmp .le 8, 3) := by decide +kernel
theorem dX8_wrong_121 : decode cX8_wrong 121 = .ok (.iload 6, 2) := by decide +kernel
theorem dX8_wrong_123 : decode cX8_wrong 123 = .ok (.goto 5, 3) := by decide +kernel
theorem dX8_wrong_126 : decode cX8_wrong 126 = .ok (.iload 4, 2) := by decide +kernel
theorem dX8_wrong_128 : decode cX8_wrong 128 = .ok (.istore 4, 2) := by decide +kernel
theorem dX8_wrong_130 : decode cX8_wrong 130 = .ok (.iload 8, 2) := by decide +kernel
theorem dX8_wrong_132 : decode cX8_wrong 132 = .ok (.iload 5, 2) := by decide +kernel
theorem dX8_wrong_134 : decode cX8_wrong 134 = .ok (.if_icmp .le 8, 3) := by decide +kernel
theorem dX8_wrong_137 : decode cX8_wrong 137 = .ok (.iload 8, 2) := by decide +kernel
theorem dX8_wrong_139 : decode cX8_wrong 139 = .ok (.goto 5, 3) := by decide +kernel
theorem dX8_wrong_142 : decode cX8_wrong 142 = .ok (.iload 5, 2) := by decide +kernel
theorem dX8_wrong_144 : decode cX8_wrong 144 = .ok (.istore 5, 2) := by decide +kernel
theorem dX8_wrong_146 : decode cX8_wrong 146 = .ok (.iinc 6 10, 3) := by decide +kernel
theorem dX8_wrong_149 : decode cX8_wrong 149 = .ok (.goto (-98), 3) := by decide +kernel
theorem dX8_wrong_152 : decode cX8_wrong 152 = .ok (.iload_n 3, 1) := by decide +kernel
theorem dX8_wrong_153 : decode cX8_wrong 153 = .ok (.ifCond .ne 8, 3) := by decide +kernel
theorem dX8_wrong_156 : decode cX8_wrong 156 = .ok (.iload 4, 2) := by decide +kernel
theorem dX8_wrong_158 : decode cX8_wrong 158 = .ok (.goto 5, 3) := by decide +kernel
theorem dX8_wrong_161 : decode cX8_wrong 161 = .ok (.iload 5, 2) := by decide +kernel
theorem dX8_wrong_163 : decode cX8_wrong 163 = .ok (.ireturn, 1) := by decide +kernel
theorem dX8_moved_0 : decode cX8_moved 0 = .ok (.aload_n 0, 1) := by decide +kernel
theorem dX8_moved_1 : decode cX8_moved 1 = .ok (.iload_n 1, 1) := by decide +kernel
theorem dX8_moved_2 : decode cX8_moved 2 = .ok (.invokevirtual 100, 3) := by decide +kernel
theorem dX8_moved_5 : decode cX8_moved 5 = .ok (.ifCond .eq 22, 3) := by decide +kernel
theorem dX8_moved_8 : decode cX8_moved 8 = .ok (.iload_n 2, 1) := by decide +kernel
theorem dX8_moved_9 : decode cX8_moved 9 = .ok (.iconst 1, 1) := by decide +kernel
theorem dX8_moved_10 : decode cX8_moved 10 = .ok (.bipush 60, 2) := by decide +kernel
theorem dX8_moved_12 : decode cX8_moved 12 = .ok (.invokestatic 78, 3) := by decide +kernel
theorem dX8_moved_15 : decode cX8_moved 15 = .ok (.ifCond .eq 12, 3) := by decide +kernel
theorem dX8_moved_18 : decode cX8_moved 18 = .ok (.iload_n 3, 1) := by decide +kernel
theorem dX8_moved_19 : decode cX8_moved 19 = .ok (.iconst 0, 1) := by decide +kernel
theorem dX8_moved_20 : decode cX8_moved 20 = .ok (.iconst 1, 1) := by decide +kernel
theorem dX8_moved_21 : decode cX8_moved 21 = .ok (.invokestatic 78, 3) := by decide +kernel
theorem dX8_moved_24 : decode cX8_moved 24 = .ok (.ifCond .ne 6, 3) := by decide +kernel
theorem dX8_moved_27 : decode cX8_moved 27 = .ok (.ldc 90, 2) := by decide +kernel
theorem dX8_moved_29 : decode cX8_moved 29 = .ok (.ireturn, 1) := by decide +kernel
theorem dX8_moved_30 : decode cX8_moved 30 = .ok (.aload_n 0, 1) := by decide +kernel
theorem dX8_moved_31 : decode cX8_moved 31 = .ok (.invokevirtual 168, 3) := by decide +kernel
theorem dX8_moved_34 : decode cX8_moved 34 = .ok (.iconst 0, 1) := by decide +kernel
theorem dX8_moved_35 : decode cX8_moved 35 = .ok (.istore 4, 2) := by decide +kernel
theorem dX8_moved_37 : decode cX8_moved 37 = .ok (.aload_n 0, 1) := by decide +kernel
theorem dX8_moved_38 : decode cX8_moved 38 = .ok (.iload_n 1, 1) := by decide +kernel
theorem dX8_moved_39 : decode cX8_moved 39 = .ok (.iconst 1, 1) := by decide +kernel
theorem dX8_moved_40 : decode cX8_moved 40 = .ok (.iconst 0, 1) := by decide +kernel
theorem dX8_moved_41 : decode cX8_moved 41 = .ok (.iload_n 2, 1) := by decide +kernel
theorem dX8_moved_42 : decode cX8_moved 42 = .ok (.invokevirtual 174, 3) := by decide +kernel
theorem dX8_moved_45 : decode cX8_moved 45 = .ok (.istore 5, 2) := by decide +kernel
theorem dX8_moved_47 : decode cX8_moved 47 = .ok (.iconst 1, 1) := by decide +kernel
theorem dX8_moved_48 : decode cX8_moved 48 = .ok (.istore 6, 2) := by decide +kernel
theorem dX8_moved_50 : decode cX8_moved 50 = .ok (.iload 6, 2) := by decide +kernel
theorem dX8_moved_52 : decode cX8_moved 52 = .ok (.iconst 3, 1) := by decide +kernel
theorem dX8_moved_53 : decode cX8_moved 53 = .ok (.if_icmp .ge 52, 3) := by decide +kernel
theorem dX8_moved_56 : decode cX8_moved 56 = .ok (.aload_n 0, 1) := by decide +kernel
theorem dX8_moved_57 : decode cX8_moved 57 = .ok (.iload_n 1, 1) := by decide +kernel
theorem dX8_moved_58 : decode cX8_moved 58 = .ok (.iconst 1, 1) := by decide +kernel
theorem dX8_moved_59 : decode cX8_moved 59 = .ok (.iload 6, 2) := by decide +kernel
theorem dX8_moved_61 : decode cX8_moved 61 = .ok (.iload_n 2, 1) := by decide +kernel
theorem dX8_moved_62 : decode cX8_moved 62 = .ok (.invokevirtual 174, 3) := by decide +kernel
theorem dX8_moved_65 : decode cX8_moved 65 = .ok (.istore 7, 2) := by decide +kernel
theorem dX8_moved_67 : decode cX8_moved 67 = .ok (.iload 7, 2) := by decide +kernel
theorem dX8_moved_69 : decode cX8_moved 69 = .ok (.iload 5, 2) := by decide +kernel
theorem dX8_moved_71 : decode cX8_moved 71 = .ok (.if_icmp .le 8, 3) := by decide +kernel
theorem dX8_moved_74 : decode cX8_moved 74 = .ok (.iload 6, 2) := by decide +kernel
theorem dX8_moved_76 : decode cX8_moved 76 = .ok (.goto 5, 3) := by decide +kernel
theorem dX8_moved_79 : decode cX8_moved 79 = .ok (.iload 4, 2) := by decide +kernel
theorem dX8_moved_81 : decode cX8_moved 81 = .ok (.istore 4, 2) := by decide +kernel
theorem dX8_moved_83 : decode cX8_moved 83 = .ok (.iload 7, 2) := by decide +kernel
theorem dX8_moved_85 : decode cX8_moved 85 = .ok (.iload 5, 2) := by decide +kernel
theorem dX8_moved_87 : decode cX8_moved 87 = .ok (.if_icmp .le 8, 3) := by decide +kernel
theorem dX8_moved_90 : decode cX8_moved 90 = .ok (.iload 7, 2) := by decide +kernel
theorem dX8_moved_92 : decode cX8_moved 92 = .ok (.goto 5, 3) := by decide +kernel
theorem dX8_moved_95 : decode cX8_moved 95 = .ok (.iload 5, 2) := by decide +kernel
theorem dX8_moved_97 : decode cX8_moved 97 = .ok (.istore 5, 2) := by decide +kernel
theorem dX8_moved_99 : decode cX8_moved 99 = .ok (.iinc 6 1, 3) := by decide +kernel
theorem dX8_moved_102 : decode cX8_moved 102 = .ok (.goto (-52), 3) := by decide +kernel
theorem dX8_moved_105 : decode cX8_moved 105 = .ok (.iload_n 3, 1) := by decide +kernel
theorem dX8_moved_106 : decode cX8_moved 106 = .ok (.ifCond .ne 8, 3) := by decide +kernel
theorem dX8_moved_109 : decode cX8_moved 109 = .ok (.iload 4, 2) := by decide +kernel
theorem dX8_moved_111 : decode cX8_moved 111 = .ok (.goto 5, 3) := by decide +kernel
theorem dX8_moved_114 : decode cX8_moved 114 = .ok (.iload 5, 2) := by decide +kernel
theorem dX8_moved_116 : decode cX8_moved 116 = .ok (.ireturn, 1) := by decide +kernel
theorem dX8_dark_0 : decode cX8_dark 0 = .ok (.aload_n 0, 1) := by decide +kernel
theorem dX8_dark_1 : decode cX8_dark 1 = .ok (.invokevirtual 168, 3) := by decide +kernel
theorem dX8_dark_4 : decode cX8_dark 4 = .ok (.iconst 1, 1) := by decide +kernel
theorem dX8_dark_5 : decode cX8_dark 5 = .ok (.istore_n 1, 1) := by decide +kernel
theorem dX8_dark_6 : decode cX8_dark 6 = .ok (.aload_n 0, 1) := by decide +kernel
theorem dX8_dark_7 : decode cX8_dark 7 = .ok (.invokevirtual 155, 3) := by decide +kernel
theorem dX8_dark_10 : decode cX8_dark 10 = .ok (.istore_n 2, 1) := by decide +kernel
theorem dX8_dark_11 : decode cX8_dark 11 = .ok (.iload_n 1, 1) := by decide +kernel
theorem dX8_dark_12 : decode cX8_dark 12 = .ok (.sipush 200, 3) := by decide +kernel
theorem dX8_dark_15 : decode cX8_dark 15 = .ok (.if_icmp .gt 31, 3) := by decide +kernel
theorem dX8_dark_18 : decode cX8_dark 18 = .ok (.aload_n 0, 1) := by decide +kernel
theorem dX8_dark_19 : decode cX8_dark 19 = .ok (.iconst 5, 1) := by decide +kernel
theorem dX8_dark_20 : decode cX8_dark 20 = .ok (.invokevirtual 161, 3) := by decide +kernel
theorem dX8_dark_23 : decode cX8_dark 23 = .ok (.aload_n 0, 1) := by decide +kernel
theorem dX8_dark_24 : decode cX8_dark 24 = .ok (.iconst 2, 1) := by decide +kernel
theorem dX8_dark_25 : decode cX8_dark 25 = .ok (.invokevirtual 161, 3) := by decide +kernel
theorem dX8_dark_28 : decode cX8_dark 28 = .ok (.iconst 2, 1) := by decide +kernel
theorem dX8_dark_29 : decode cX8_dark 29 = .ok (.idiv, 1) := by decide +kernel
theorem dX8_dark_30 : decode cX8_dark 30 = .ok (.if_icmp .lt 16, 3) := by decide +kernel
theorem dX8_dark_33 : decode cX8_dark 33 = .ok (.iload_n 2, 1) := by decide +kernel
theorem dX8_dark_34 : decode cX8_dark 34 = .ok (.aload_n 0, 1) := by decide +kernel
theorem dX8_dark_35 : decode cX8_dark 35 = .ok (.invokevirtual 155, 3) := by decide +kernel
theorem dX8_dark_38 : decode cX8_dark 38 = .ok (.iadd, 1) := by decide +kernel
theorem dX8_dark_39 : decode cX8_dark 39 = .ok (.istore_n 2, 1) := by decide +kernel
theorem dX8_dark_40 : decode cX8_dark 40 = .ok (.iinc 1 1, 3) := by decide +kernel
theorem dX8_dark_43 : decode cX8_dark 43 = .ok (.goto (-32), 3) := by decide +kernel
theorem dX8_dark_46 : decode cX8_dark 46 = .ok (.aload_n 0, 1) := by decide +kernel
theorem dX8_dark_47 : decode cX8_dark 47 = .ok (.invokevirtual 171, 3) := by decide +kernel
theorem dX8_dark_50 : decode cX8_dark 50 = .ok (.iload_n 1, 1) := by decide +kernel
theorem dX8_dark_51 : decode cX8_dark 51 = .ok (.sipush 200, 3) := by decide +kernel
theorem dX8_dark_54 : decode cX8_dark 54 = .ok (.if_icmp .gt 7, 3) := by decide +kernel
theorem dX8_dark_57 : decode cX8_dark 57 = .ok (.iload_n 1, 1) := by decide +kernel
theorem dX8_dark_58 : decode cX8_dark 58 = .ok (.goto 5, 3) := by decide +kernel
theorem dX8_dark_61 : decode cX8_dark 61 = .ok (.ldc 167, 2) := by decide +kernel
theorem dX8_dark_63 : decode cX8_dark 63 = .ok (.ireturn, 1) := by decide +kernel
theorem dX8_offBy_0 : decode cX8_offBy 0 = .ok (.aload_n 0, 1) := by decide +kernel
theorem dX8_offBy_1 : decode cX8_offBy 1 = .ok (.iload_n 2, 1) := by decide +kernel
theorem dX8_offBy_2 : decode cX8_offBy 2 = .ok (.iconst 2, 1) := by decide +kernel
theorem dX8_offBy_3 : decode cX8_offBy 3 = .ok (.iload_n 3, 1) := by decide +kernel
theorem dX8_offBy_4 : decode cX8_offBy 4 = .ok (.invokevirtual 82, 3) := by decide +kernel
theorem dX8_offBy_7 : decode cX8_offBy 7 = .ok (.lconst 0, 1) := by decide +kernel
theorem dX8_offBy_8 : decode cX8_offBy 8 = .ok (.lstore 4, 2) := by decide +kernel
theorem dX8_offBy_10 : decode cX8_offBy 10 = .ok (.iconst 0, 1) := by decide +kernel
theorem dX8_offBy_11 : decode cX8_offBy 11 = .ok (.istore 6, 2) := by decide +kernel
theorem dX8_offBy_13 : decode cX8_offBy 13 = .ok (.iload 6, 2) := by decide +kernel
theorem dX8_offBy_15 : decode cX8_offBy 15 = .ok (.aload_n 0, 1) := by decide +kernel
theorem dX8_offBy_16 : decode cX8_offBy 16 = .ok (.getfield 54, 3) := by decide +kernel
theorem dX8_offBy_19 : decode cX8_offBy 19 = .ok (.iload_n 1, 1) := by decide +kernel
theorem dX8_offBy_20 : decode cX8_offBy 20 = .ok (.iaload, 1) := by decide +kernel
theorem dX8_offBy_21 : decode cX8_offBy 21 = .ok (.if_icmp .ge 73, 3) := by decide +kernel
theorem dX8_offBy_24 : decode cX8_offBy 24 = .ok (.aload_n 0, 1) := by decide +kernel
theorem dX8_offBy_25 : decode cX8_offBy 25 = .ok (.invokevirtual 155, 3) := by decide +kernel
theorem dX8_offBy_28 : decode cX8_offBy 28 = .ok (.istore 7, 2) := by decide +kernel
theorem dX8_offBy_30 : decode cX8_offBy 30 = .ok (.aload_n 0, 1) := by decide +kernel
theorem dX8_offBy_31 : decode cX8_offBy 31 = .ok (.getfield 57, 3) := by decide +kernel
theorem dX8_offBy_34 : decode cX8_offBy 34 = .ok (.bipush 24, 2) := by decide +kernel
theorem dX8_offBy_36 : decode cX8_offBy 36 = .ok (.iload_n 1, 1) := by decide +kernel
theorem dX8_offBy_37 : decode cX8_offBy 37 = .ok (.imul, 1) := by decide +kernel
theorem dX8_offBy_38 : decode cX8_offBy 38 = .ok (.iload 6, 2) := by decide +kernel
theorem dX8_offBy_40 : decode cX8_offBy 40 = .ok (.iadd, 1) := by decide +kernel
theorem dX8_offBy_41 : decode cX8_offBy 41 = .ok (.iaload, 1) := by decide +kernel
theorem dX8_offBy_42 : decode cX8_offBy 42 = .ok (.istore 8, 2) := by decide +kernel
theorem dX8_offBy_44 : decode cX8_offBy 44 = .ok (.iload 8, 2) := by decide +kernel
theorem dX8_offBy_46 : decode cX8_offBy 46 = .ok (.i2l, 1) := by decide +kernel
theorem dX8_offBy_47 : decode cX8_offBy 47 = .ok (.aload_n 0, 1) := by decide +kernel
theorem dX8_offBy_48 : decode cX8_offBy 48 = .ok (.iload_n 2, 1) := by decide +kernel
theorem dX8_offBy_49 : decode cX8_offBy 49 = .ok (.iconst 5, 1) := by decide +kernel
theorem dX8_offBy_50 : decode cX8_offBy 50 = .ok (.invokevirtual 96, 3) := by decide +kernel
theorem dX8_offBy_53 : decode cX8_offBy 53 = .ok (.i2l, 1) := by decide +kernel
theorem dX8_offBy_54 : decode cX8_offBy 54 = .ok (.lsub, 1) := by decide +kernel
theorem dX8_offBy_55 : decode cX8_offBy 55 = .ok (.lstore 9, 2) := by decide +kernel
theorem dX8_offBy_57 : decode cX8_offBy 57 = .ok (.lload 4, 2) := by decide +kernel
theorem dX8_offBy_59 : decode cX8_offBy 59 = .ok (.iload 8, 2) := by decide +kernel
theorem dX8_offBy_61 : decode cX8_offBy 61 = .ok (.ldc 167, 2) := by decide +kernel
theorem dX8_offBy_63 : decode cX8_offBy 63 = .ok (.if_icmp .ne 7, 3) := by decide +kernel
theorem dX8_offBy_66 : decode cX8_offBy 66 = .ok (.lconst 0, 1) := by decide +kernel
theorem dX8_offBy_67 : decode cX8_offBy 67 = .ok (.goto 18, 3) := by decide +kernel
theorem dX8_offBy_70 : decode cX8_offBy 70 = .ok (.lload 9, 2) := by decide +kernel
theorem dX8_offBy_72 : decode cX8_offBy 72 = .ok (.lconst 0, 1) := by decide +kernel
theorem dX8_offBy_73 : decode cX8_offBy 73 = .ok (.lcmp, 1) := by decide +kernel
theorem dX8_offBy_74 : decode cX8_offBy 74 = .ok (.ifCond .ge 9, 3) := by decide +kernel
theorem dX8_offBy_77 : decode cX8_offBy 77 = .ok (.lload 9, 2) := by decide +kernel
theorem dX8_offBy_79 : decode cX8_offBy 79 = .ok (.lneg, 1) := by decide +kernel
theorem dX8_offBy_80 : decode cX8_offBy 80 = .ok (.goto 5, 3) := by decide +kernel
theorem dX8_offBy_83 : decode cX8_offBy 83 = .ok (.lload 9, 2) := by decide +kernel
theorem dX8_offBy_85 : decode cX8_offBy 85 = .ok (.ladd, 1) := by decide +kernel
theorem dX8_offBy_86 : decode cX8_offBy 86 = .ok (.lstore 4, 2) := by decide +kernel
theorem dX8_offBy_88 : decode cX8_offBy 88 = .ok (.iinc 6 1, 3) := by decide +kernel
theorem dX8_offBy_91 : decode cX8_offBy 91 = .ok (.goto (-78), 3) := by decide +kernel
theorem dX8_offBy_94 : decode cX8_offBy 94 = .ok (.aload_n 0, 1) := by decide +kernel
theorem dX8_offBy_95 : decode cX8_offBy 95 = .ok (.invokevirtual 171, 3) := by decide +kernel
theorem dX8_offBy_98 : decode cX8_offBy 98 = .ok (.lload 4, 2) := by decide +kernel
theorem dX8_offBy_100 : decode cX8_offBy 100 = .ok (.lreturn, 1) := by decide +kernel
theorem dX8_wished_0 : decode cX8_wished 0 = .ok (.iload_n 1, 1) := by decide +kernel
theorem dX8_wished_1 : decode cX8_wished 1 = .ok (.invokestatic 178, 3) := by decide +kernel
theorem dX8_wished_4 : decode cX8_wished 4 = .ok (.ifCond .eq 20, 3) := by decide +kernel
theorem dX8_wished_7 : decode cX8_wished 7 = .ok (.aload_n 0, 1) := by decide +kernel
theorem dX8_wished_8 : decode cX8_wished 8 = .ok (.iload_n 2, 1) := by decide +kernel
theorem dX8_wished_9 : decode cX8_wished 9 = .ok (.invokevirtual 100, 3) := by decide +kernel
theorem dX8_wished_12 : decode cX8_wished 12 = .ok (.ifCond .eq 12, 3) := by decide +kernel
theorem dX8_wished_15 : decode cX8_wished 15 = .ok (.iload_n 3, 1) := by decide +kernel
theorem dX8_wished_16 : decode cX8_wished 16 = .ok (.iconst 0, 1) := by decide +kernel
theorem dX8_wished_17 : decode cX8_wished 17 = .ok (.iconst 1, 1) := by decide +kernel
theorem dX8_wished_18 : decode cX8_wished 18 = .ok (.invokestatic 78, 3) := by decide +kernel
theorem dX8_wished_21 : decode cX8_wished 21 = .ok (.ifCond .ne 6, 3) := by decide +kernel
theorem dX8_wished_24 : decode cX8_wished 24 = .ok (.ldc 90, 2) := by decide +kernel
theorem dX8_wished_26 : decode cX8_wished 26 = .ok (.ireturn, 1) := by decide +kernel
theorem dX8_wished_27 : decode cX8_wished 27 = .ok (.aload_n 0, 1) := by decide +kernel
theorem dX8_wished_28 : decode cX8_wished 28 = .ok (.getfield 51, 3) := by decide +kernel
theorem dX8_wished_31 : decode cX8_wished 31 = .ok (.iload_n 1, 1) := by decide +kernel
theorem dX8_wished_32 : decode cX8_wished 32 = .ok (.iaload, 1) := by decide +kernel
theorem dX8_wished_33 : decode cX8_wished 33 = .ok (.ifCond .ge 6, 3) := by decide +kernel
theorem dX8_wished_36 : decode cX8_wished 36 = .ok (.ldc 181, 2) := by decide +kernel
theorem dX8_wished_38 : decode cX8_wished 38 = .ok (.ireturn, 1) := by decide +kernel
theorem dX8_wished_39 : decode cX8_wished 39 = .ok (.aload_n 0, 1) := by decide +kernel
theorem dX8_wished_40 : decode cX8_wished 40 = .ok (.invokevirtual 168, 3) := by decide +kernel
theorem dX8_wished_43 : decode cX8_wished 43 = .ok (.iconst 0, 1) := by decide +kernel
theorem dX8_wished_44 : decode cX8_wished 44 = .ok (.istore 4, 2) := by decide +kernel
theorem dX8_wished_46 : decode cX8_wished 46 = .ok (.aload_n 0, 1) := by decide +kernel
theorem dX8_wished_47 : decode cX8_wished 47 = .ok (.iload_n 1, 1) := by decide +kernel
theorem dX8_wished_48 : decode cX8_wished 48 = .ok (.iload_n 2, 1) := by decide +kernel
theorem dX8_wished_49 : decode cX8_wished 49 = .ok (.iconst 0, 1) := by decide +kernel
theorem dX8_wished_50 : decode cX8_wished 50 = .ok (.invokevirtual 182, 3) := by decide +kernel
theorem dX8_wished_53 : decode cX8_wished 53 = .ok (.lstore 5, 2) := by decide +kernel
theorem dX8_wished_55 : decode cX8_wished 55 = .ok (.bipush 20, 2) := by decide +kernel
theorem dX8_wished_57 : decode cX8_wished 57 = .ok (.istore 7, 2) := by decide +kernel
theorem dX8_wished_59 : decode cX8_wished 59 = .ok (.iload 7, 2) := by decide +kernel
theorem dX8_wished_61 : decode cX8_wished 61 = .ok (.sipush 580, 3) := by decide +kernel
theorem dX8_wished_64 : decode cX8_wished 64 = .ok (.if_icmp .gt 53, 3) := by decide +kernel
theorem dX8_wished_67 : decode cX8_wished 67 = .ok (.aload_n 0, 1) := by decide +kernel
theorem dX8_wished_68 : decode cX8_wished 68 = .ok (.iload_n 1, 1) := by decide +kernel
theorem dX8_wished_69 : decode cX8_wished 69 = .ok (.iload_n 2, 1) := by decide +kernel
theorem dX8_wished_70 : decode cX8_wished 70 = .ok (.iload 7, 2) := by decide +kernel
theorem dX8_wished_72 : decode cX8_wished 72 = .ok (.invokevirtual 182, 3) := by decide +kernel
theorem dX8_wished_75 : decode cX8_wished 75 = .ok (.lstore 8, 2) := by decide +kernel
theorem dX8_wished_77 : decode cX8_wished 77 = .ok (.lload 8, 2) := by decide +kernel
theorem dX8_wished_79 : decode cX8_wished 79 = .ok (.lload 5, 2) := by decide +kernel
theorem dX8_wished_81 : decode cX8_wished 81 = .ok (.lcmp, 1) := by decide +kernel
theorem dX8_wished_82 : decode cX8_wished 82 = .ok (.ifCond .ge 8, 3) := by decide +kernel
theorem dX8_wished_85 : decode cX8_wished 85 = .ok (.iload 7, 2) := by decide +kernel
theorem dX8_wished_87 : decode cX8_wished 87 = .ok (.goto 5, 3) := by decide +kernel
theorem dX8_wished_90 : decode cX8_wished 90 = .ok (.iload 4, 2) := by decide +kernel
theorem dX8_wished_92 : decode cX8_wished 92 = .ok (.istore 4, 2) := by decide +kernel
theorem dX8_wished_94 : decode cX8_wished 94 = .ok (.lload 8, 2) := by decide +kernel
theorem dX8_wished_96 : decode cX8_wished 96 = .ok (.lload 5, 2) := by decide +kernel
theorem dX8_wished_98 : decode cX8_wished 98 = .ok (.lcmp, 1) := by decide +kernel
theorem dX8_wished_99 : decode cX8_wished 99 = .ok (.ifCond .ge 8, 3) := by decide +kernel
theorem dX8_wished_102 : decode cX8_wished 102 = .ok (.lload 8, 2) := by decide +kernel
theorem dX8_wished_104 : decode cX8_wished 104 = .ok (.goto 5, 3) := by decide +kernel
theorem dX8_wished_107 : decode cX8_wished 107 = .ok (.lload 5, 2) := by decide +kernel
theorem dX8_wished_109 : decode cX8_wished 109 = .ok (.lstore 5, 2) := by decide +kernel
theorem dX8_wished_111 : decode cX8_wished 111 = .ok (.iinc 7 20, 3) := by decide +kernel
theorem dX8_wished_114 : decode cX8_wished 114 = .ok (.goto (-55), 3) := by decide +kernel
theorem dX8_wished_117 : decode cX8_wished 117 = .ok (.iload_n 3, 1) := by decide +kernel
theorem dX8_wished_118 : decode cX8_wished 118 = .ok (.ifCond .ne 8, 3) := by decide +kernel
theorem dX8_wished_121 : decode cX8_wished 121 = .ok (.iload 4, 2) := by decide +kernel
theorem dX8_wished_123 : decode cX8_wished 123 = .ok (.goto 6, 3) := by decide +kernel
theorem dX8_wished_126 : decode cX8_wished 126 = .ok (.lload 5, 2) := by decide +kernel
theorem dX8_wished_128 : decode cX8_wished 128 = .ok (.l2i, 1) := by decide +kernel
theorem dX8_wished_129 : decode cX8_wished 129 = .ok (.ireturn, 1) := by decide +kernel
theorem dX8_fee_0 : decode cX8_fee 0 = .ok (.aload_n 0, 1) := by decide +kernel
theorem dX8_fee_1 : decode cX8_fee 1 = .ok (.iconst 1, 1) := by decide +kernel
theorem dX8_fee_2 : decode cX8_fee 2 = .ok (.invokevirtual 108, 3) := by decide +kernel
theorem dX8_fee_5 : decode cX8_fee 5 = .ok (.istore_n 1, 1) := by decide +kernel
theorem dX8_fee_6 : decode cX8_fee 6 = .ok (.aload_n 0, 1) := by decide +kernel
theorem dX8_fee_7 : decode cX8_fee 7 = .ok (.getfield 48, 3) := by decide +kernel
theorem dX8_fee_10 : decode cX8_fee 10 = .ok (.iconst 0, 1) := by decide +kernel
theorem dX8_fee_11 : decode cX8_fee 11 = .ok (.aload_n 0, 1) := by decide +kernel
theorem dX8_fee_12 : decode cX8_fee 12 = .ok (.getfield 9, 3) := by decide +kernel
theorem dX8_fee_15 : decode cX8_fee 15 = .ok (.iconst 2, 1) := by decide +kernel
theorem dX8_fee_16 : decode cX8_fee 16 = .ok (.iaload, 1) := by decide +kernel
theorem dX8_fee_17 : decode cX8_fee 17 = .ok (.iastore, 1) := by decide +kernel
theorem dX8_fee_18 : decode cX8_fee 18 = .ok (.aload_n 0, 1) := by decide +kernel
theorem dX8_fee_19 : decode cX8_fee 19 = .ok (.getfield 48, 3) := by decide +kernel
theorem dX8_fee_22 : decode cX8_fee 22 = .ok (.iconst 1, 1) := by decide +kernel
theorem dX8_fee_23 : decode cX8_fee 23 = .ok (.aload_n 0, 1) := by decide +kernel
theorem dX8_fee_24 : decode cX8_fee 24 = .ok (.getfield 9, 3) := by decide +kernel
theorem dX8_fee_27 : decode cX8_fee 27 = .ok (.iconst 4, 1) := by decide +kernel
theorem dX8_fee_28 : decode cX8_fee 28 = .ok (.iaload, 1) := by decide +kernel
theorem dX8_fee_29 : decode cX8_fee 29 = .ok (.iastore, 1) := by decide +kernel
theorem dX8_fee_30 : decode cX8_fee 30 = .ok (.iload_n 1, 1) := by decide +kernel
theorem dX8_fee_31 : decode cX8_fee 31 = .ok (.ifCond .ge 12, 3) := by decide +kernel
theorem dX8_fee_34 : decode cX8_fee 34 = .ok (.aload_n 0, 1) := by decide +kernel
theorem dX8_fee_35 : decode cX8_fee 35 = .ok (.getfield 9, 3) := by decide +kernel
theorem dX8_fee_38 : decode cX8_fee 38 = .ok (.iconst 4, 1) := by decide +kernel
theorem dX8_fee_39 : decode cX8_fee 39 = .ok (.iaload, 1) := by decide +kernel
theorem dX8_fee_40 : decode cX8_fee 40 = .ok (.goto 8, 3) := by decide +kernel
theorem dX8_fee_43 : decode cX8_fee 43 = .ok (.aload_n 0, 1) := by decide +kernel
theorem dX8_fee_44 : decode cX8_fee 44 = .ok (.iload_n 1, 1) := by decide +kernel
theorem dX8_fee_45 : decode cX8_fee 45 = .ok (.invokevirtual 111, 3) := by decide +kernel
theorem dX8_fee_48 : decode cX8_fee 48 = .ok (.ireturn, 1) := by decide +kernel
theorem dX8_fine_0 : decode cX8_fine 0 = .ok (.aload_n 0, 1) := by decide +kernel
theorem dX8_fine_1 : decode cX8_fine 1 = .ok (.iload_n 1, 1) := by decide +kernel
theorem dX8_fine_2 : decode cX8_fine 2 = .ok (.invokevirtual 100, 3) := by decide +kernel
theorem dX8_fine_5 : decode cX8_fine 5 = .ok (.ifCond .ne 6, 3) := by decide +kernel
theorem dX8_fine_8 : decode cX8_fine 8 = .ok (.ldc 90, 2) := by decide +kernel
theorem dX8_fine_10 : decode cX8_fine 10 = .ok (.ireturn, 1) := by decide +kernel
theorem dX8_fine_11 : decode cX8_fine 11 = .ok (.aload_n 0, 1) := by decide +kernel
theorem dX8_fine_12 : decode cX8_fine 12 = .ok (.iconst 2, 1) := by decide +kernel
theorem dX8_fine_13 : decode cX8_fine 13 = .ok (.invokevirtual 108, 3) := by decide +kernel
theorem dX8_fine_16 : decode cX8_fine 16 = .ok (.istore_n 2, 1) := by decide +kernel
theorem dX8_fine_17 : decode cX8_fine 17 = .ok (.aload_n 0, 1) := by decide +kernel
theorem dX8_fine_18 : decode cX8_fine 18 = .ok (.getfield 48, 3) := by decide +kernel
theorem dX8_fine_21 : decode cX8_fine 21 = .ok (.iconst 0, 1) := by decide +kernel
theorem dX8_fine_22 : decode cX8_fine 22 = .ok (.aload_n 0, 1) := by decide +kernel
theorem dX8_fine_23 : decode cX8_fine 23 = .ok (.iload_n 1, 1) := by decide +kernel
theorem dX8_fine_24 : decode cX8_fine 24 = .ok (.bipush 7, 2) := by decide +kernel
theorem dX8_fine_26 : decode cX8_fine 26 = .ok (.invokevirtual 96, 3) := by decide +kernel
theorem dX8_fine_29 : decode cX8_fine 29 = .ok (.iastore, 1) := by decide +kernel
theorem dX8_fine_30 : decode cX8_fine 30 = .ok (.aload_n 0, 1) := by decide +kernel
theorem dX8_fine_31 : decode cX8_fine 31 = .ok (.getfield 48, 3) := by decide +kernel
theorem dX8_fine_34 : decode cX8_fine 34 = .ok (.iconst 1, 1) := by decide +kernel
theorem dX8_fine_35 : decode cX8_fine 35 = .ok (.aload_n 0, 1) := by decide +kernel
theorem dX8_fine_36 : decode cX8_fine 36 = .ok (.iload_n 1, 1) := by decide +kernel
theorem dX8_fine_37 : decode cX8_fine 37 = .ok (.bipush 8, 2) := by decide +kernel
theorem dX8_fine_39 : decode cX8_fine 39 = .ok (.invokevirtual 96, 3) := by decide +kernel
theorem dX8_fine_42 : decode cX8_fine 42 = .ok (.iastore, 1) := by decide +kernel
theorem dX8_fine_43 : decode cX8_fine 43 = .ok (.iload_n 2, 1) := by decide +kernel
theorem dX8_fine_44 : decode cX8_fine 44 = .ok (.ifCond .ge 13, 3) := by decide +kernel
theorem dX8_fine_47 : decode cX8_fine 47 = .ok (.aload_n 0, 1) := by decide +kernel
theorem dX8_fine_48 : decode cX8_fine 48 = .ok (.iload_n 1, 1) := by decide +kernel
theorem dX8_fine_49 : decode cX8_fine 49 = .ok (.bipush 7, 2) := by decide +kernel
theorem dX8_fine_51 : decode cX8_fine 51 = .ok (.invokevirtual 96, 3) := by decide +kernel
theorem dX8_fine_54 : decode cX8_fine 54 = .ok (.goto 8, 3) := by decide +kernel
theorem dX8_fine_57 : decode cX8_fine 57 = .ok (.aload_n 0, 1) := by decide +kernel
theorem dX8_fine_58 : decode cX8_fine 58 = .ok (.iload_n 2, 1) := by decide +kernel
theorem dX8_fine_59 : decode cX8_fine 59 = .ok (.invokevirtual 111, 3) := by decide +kernel
theorem dX8_fine_62 : decode cX8_fine 62 = .ok (.ireturn, 1) := by decide +kernel
theorem dX8_feed_0 : decode cX8_feed 0 = .ok (.aload_n 0, 1) := by decide +kernel
theorem dX8_feed_1 : decode cX8_feed 1 = .ok (.getfield 186, 3) := by decide +kernel
theorem dX8_feed_4 : decode cX8_feed 4 = .ok (.bipush 12, 2) := by decide +kernel
theorem dX8_feed_6 : decode cX8_feed 6 = .ok (.iadd, 1) := by decide +kernel
theorem dX8_feed_7 : decode cX8_feed 7 = .ok (.bipush 96, 2) := by decide +kernel
theorem dX8_feed_9 : decode cX8_feed 9 = .ok (.if_icmp .le 6, 3) := by decide +kernel
theorem dX8_feed_12 : decode cX8_feed 12 = .ok (.ldc 91, 2) := by decide +kernel
theorem dX8_feed_14 : decode cX8_feed 14 = .ok (.ireturn, 1) := by decide +kernel
theorem dX8_feed_15 : decode cX8_feed 15 = .ok (.iconst 0, 1) := by decide +kernel
theorem dX8_feed_16 : decode cX8_feed 16 = .ok (.istore 4, 2) := by decide +kernel
theorem dX8_feed_18 : decode cX8_feed 18 = .ok (.iload 4, 2) := by decide +kernel
theorem dX8_feed_20 : decode cX8_feed 20 = .ok (.bipush 12, 2) := by decide +kernel
theorem dX8_feed_22 : decode cX8_feed 22 = .ok (.if_icmp .ge 62, 3) := by decide +kernel
theorem dX8_feed_25 : decode cX8_feed 25 = .ok (.iload 4, 2) := by decide +kernel
theorem dX8_feed_27 : decode cX8_feed 27 = .ok (.iconst 4, 1) := by decide +kernel
theorem dX8_feed_28 : decode cX8_feed 28 = .ok (.if_icmp .ge 7, 3) := by decide +kernel
theorem dX8_feed_31 : decode cX8_feed 31 = .ok (.iload_n 1, 1) := by decide +kernel
theorem dX8_feed_32 : decode cX8_feed 32 = .ok (.goto 15, 3) := by decide +kernel
theorem dX8_feed_35 : decode cX8_feed 35 = .ok (.iload 4, 2) := by decide +kernel
theorem dX8_feed_37 : decode cX8_feed 37 = .ok (.bipush 8, 2) := by decide +kernel
theorem dX8_feed_39 : decode cX8_feed 39 = .ok (.if_icmp .ge 7, 3) := by decide +kernel
theorem dX8_feed_42 : decode cX8_feed 42 = .ok (.iload_n 2, 1) := by decide +kernel
theorem dX8_feed_43 : decode cX8_feed 43 = .ok (.goto 4, 3) := by decide +kernel
theorem dX8_feed_46 : decode cX8_feed 46 = .ok (.iload_n 3, 1) := by decide +kernel
theorem dX8_feed_47 : decode cX8_feed 47 = .ok (.istore 5, 2) := by decide +kernel
theorem dX8_feed_49 : decode cX8_feed 49 = .ok (.aload_n 0, 1) := by decide +kernel
theorem dX8_feed_50 : decode cX8_feed 50 = .ok (.getfield 26, 3) := by decide +kernel
theorem dX8_feed_53 : decode cX8_feed 53 = .ok (.aload_n 0, 1) := by decide +kernel
theorem dX8_feed_54 : decode cX8_feed 54 = .ok (.getfield 186, 3) := by decide +kernel
theorem dX8_feed_57 : decode cX8_feed 57 = .ok (.iload 4, 2) := by decide +kernel
theorem dX8_feed_59 : decode cX8_feed 59 = .ok (.iadd, 1) := by decide +kernel
theorem dX8_feed_60 : decode cX8_feed 60 = .ok (.iload 5, 2) := by decide +kernel
theorem dX8_feed_62 : decode cX8_feed 62 = .ok (.bipush 24, 2) := by decide +kernel
theorem dX8_feed_64 : decode cX8_feed 64 = .ok (.bipush 8, 2) := by decide +kernel
theorem dX8_feed_66 : decode cX8_feed 66 = .ok (.iload 4, 2) := by decide +kernel
theorem dX8_feed_68 : decode cX8_feed 68 = .ok (.iconst 4, 1) := by decide +kernel
theorem dX8_feed_69 : decode cX8_feed 69 = .ok (.irem, 1) := by decide +kernel
theorem dX8_feed_70 : decode cX8_feed 70 = .ok (.imul, 1) := by decide +kernel
theorem dX8_feed_71 : decode cX8_feed 71 = .ok (.isub, 1) := by decide +kernel
theorem dX8_feed_72 : decode cX8_feed 72 = .ok (.ishr, 1) := by decide +kernel
theorem dX8_feed_73 : decode cX8_feed 73 = .ok (.sipush 255, 3) := by decide +kernel
theorem dX8_feed_76 : decode cX8_feed 76 = .ok (.iand, 1) := by decide +kernel
theorem dX8_feed_77 : decode cX8_feed 77 = .ok (.iastore, 1) := by decide +kernel
theorem dX8_feed_78 : decode cX8_feed 78 = .ok (.iinc 4 1, 3) := by decide +kernel
theorem dX8_feed_81 : decode cX8_feed 81 = .ok (.goto (-63), 3) := by decide +kernel
theorem dX8_feed_84 : decode cX8_feed 84 = .ok (.aload_n 0, 1) := by decide +kernel
theorem dX8_feed_85 : decode cX8_feed 85 = .ok (.dup, 1) := by decide +kernel
theorem dX8_feed_86 : decode cX8_feed 86 = .ok (.getfield 186, 3) := by decide +kernel
theorem dX8_feed_89 : decode cX8_feed 89 = .ok (.bipush 12, 2) := by decide +kernel
theorem dX8_feed_91 : decode cX8_feed 91 = .ok (.iadd, 1) := by decide +kernel
theorem dX8_feed_92 : decode cX8_feed 92 = .ok (.putfield 186, 3) := by decide +kernel
theorem dX8_feed_95 : decode cX8_feed 95 = .ok (.aload_n 0, 1) := by decide +kernel
theorem dX8_feed_96 : decode cX8_feed 96 = .ok (.getfield 186, 3) := by decide +kernel
theorem dX8_feed_99 : decode cX8_feed 99 = .ok (.ireturn, 1) := by decide +kernel
theorem dX8_trim_0 : decode cX8_trim 0 = .ok (.iload_n 1, 1) := by decide +kernel
theorem dX8_trim_1 : decode cX8_trim 1 = .ok (.iconst 0, 1) := by decide +kernel
theorem dX8_trim_2 : decode cX8_trim 2 = .ok (.aload_n 0, 1) := by decide +kernel
theorem dX8_trim_3 : decode cX8_trim 3 = .ok (.getfield 186, 3) := by decide +kernel
theorem dX8_trim_6 : decode cX8_trim 6 = .ok (.invokestatic 78, 3) := by decide +kernel
theorem dX8_trim_9 : decode cX8_trim 9 = .ok (.ifCond .ne 6, 3) := by decide +kernel
theorem dX8_trim_12 : decode cX8_trim 12 = .ok (.ldc 90, 2) := by decide +kernel
theorem dX8_trim_14 : decode cX8_trim 14 = .ok (.ireturn, 1) := by decide +kernel
theorem dX8_trim_15 : decode cX8_trim 15 = .ok (.aload_n 0, 1) := by decide +kernel
theorem dX8_trim_16 : decode cX8_trim 16 = .ok (.iload_n 1, 1) := by decide +kernel
theorem dX8_trim_17 : decode cX8_trim 17 = .ok (.putfield 186, 3) := by decide +kernel
theorem dX8_trim_20 : decode cX8_trim 20 = .ok (.iload_n 1, 1) := by decide +kernel
theorem dX8_trim_21 : decode cX8_trim 21 = .ok (.ireturn, 1) := by decide +kernel
theorem dX8_isLetter_0 : decode cX8_isLetter 0 = .ok (.iload_n 1, 1) := by decide +kernel
theorem dX8_isLetter_1 : decode cX8_isLetter 1 = .ok (.aload_n 0, 1) := by decide +kernel
theorem dX8_isLetter_2 : decode cX8_isLetter 2 = .ok (.getfield 186, 3) := by decide +kernel
theorem dX8_isLetter_5 : decode cX8_isLetter 5 = .ok (.if_icmp .ge 29, 3) := by decide +kernel
theorem dX8_isLetter_8 : decode cX8_isLetter 8 = .ok (.aload_n 0, 1) := by decide +kernel
theorem dX8_isLetter_9 : decode cX8_isLetter 9 = .ok (.getfield 26, 3) := by decide +kernel
theorem dX8_isLetter_12 : decode cX8_isLetter 12 = .ok (.iload_n 1, 1) := by decide +kernel
theorem dX8_isLetter_13 : decode cX8_isLetter 13 = .ok (.iaload, 1) := by decide +kernel
theorem dX8_isLetter_14 : decode cX8_isLetter 14 = .ok (.bipush 97, 2) := by decide +kernel
theorem dX8_isLetter_16 : decode cX8_isLetter 16 = .ok (.if_icmp .lt 18, 3) := by decide +kernel
theorem dX8_isLetter_19 : decode cX8_isLetter 19 = .ok (.aload_n 0, 1) := by decide +kernel
theorem dX8_isLetter_20 : decode cX8_isLetter 20 = .ok (.getfield 26, 3) := by decide +kernel
theorem dX8_isLetter_23 : decode cX8_isLetter 23 = .ok (.iload_n 1, 1) := by decide +kernel
theorem dX8_isLetter_24 : decode cX8_isLetter 24 = .ok (.iaload, 1) := by decide +kernel
theorem dX8_isLetter_25 : decode cX8_isLetter 25 = .ok (.bipush 122, 2) := by decide +kernel
theorem dX8_isLetter_27 : decode cX8_isLetter 27 = .ok (.if_icmp .gt 7, 3) := by decide +kernel
theorem dX8_isLetter_30 : decode cX8_isLetter 30 = .ok (.iconst 1, 1) := by decide +kernel
theorem dX8_isLetter_31 : decode cX8_isLetter 31 = .ok (.goto 4, 3) := by decide +kernel
theorem dX8_isLetter_34 : decode cX8_isLetter 34 = .ok (.iconst 0, 1) := by decide +kernel
theorem dX8_isLetter_35 : decode cX8_isLetter 35 = .ok (.ireturn, 1) := by decide +kernel
theorem dX8_isFigure_0 : decode cX8_isFigure 0 = .ok (.iload_n 1, 1) := by decide +kernel
theorem dX8_isFigure_1 : decode cX8_isFigure 1 = .ok (.aload_n 0, 1) := by decide +kernel
theorem dX8_isFigure_2 : decode cX8_isFigure 2 = .ok (.getfield 186, 3) := by decide +kernel
theorem dX8_isFigure_5 : decode cX8_isFigure 5 = .ok (.if_icmp .ge 29, 3) := by decide +kernel
theorem dX8_isFigure_8 : decode cX8_isFigure 8 = .ok (.aload_n 0, 1) := by decide +kernel
theorem dX8_isFigure_9 : decode cX8_isFigure 9 = .ok (.getfield 26, 3) := by decide +kernel
theorem dX8_isFigure_12 : decode cX8_isFigure 12 = .ok (.iload_n 1, 1) := by decide +kernel
theorem dX8_isFigure_13 : decode cX8_isFigure 13 = .ok (.iaload, 1) := by decide +kernel
theorem dX8_isFigure_14 : decode cX8_isFigure 14 = .ok (.bipush 48, 2) := by decide +kernel
theorem dX8_isFigure_16 : decode cX8_isFigure 16 = .ok (.if_icmp .lt 18, 3) := by decide +kernel
theorem dX8_isFigure_19 : decode cX8_isFigure 19 = .ok (.aload_n 0, 1) := by decide +kernel
theorem dX8_isFigure_20 : decode cX8_isFigure 20 = .ok (.getfield 26, 3) := by decide +kernel
theorem dX8_isFigure_23 : decode cX8_isFigure 23 = .ok (.iload_n 1, 1) := by decide +kernel
theorem dX8_isFigure_24 : decode cX8_isFigure 24 = .ok (.iaload, 1) := by decide +kernel
theorem dX8_isFigure_25 : decode cX8_isFigure 25 = .ok (.bipush 57, 2) := by decide +kernel
theorem dX8_isFigure_27 : decode cX8_isFigure 27 = .ok (.if_icmp .gt 7, 3) := by decide +kernel
theorem dX8_isFigure_30 : decode cX8_isFigure 30 = .ok (.iconst 1, 1) := by decide +kernel
theorem dX8_isFigure_31 : decode cX8_isFigure 31 = .ok (.goto 4, 3) := by decide +kernel
theorem dX8_isFigure_34 : decode cX8_isFigure 34 = .ok (.iconst 0, 1) := by decide +kernel
theorem dX8_isFigure_35 : decode cX8_isFigure 35 = .ok (.ireturn, 1) := by decide +kernel
theorem dX8_go_0 : decode cX8_go 0 = .ok (.aload_n 0, 1) := by decide +kernel
theorem dX8_go_1 : decode cX8_go 1 = .ok (.getfield 190, 3) := by decide +kernel
theorem dX8_go_4 : decode cX8_go 4 = .ok (.aload_n 0, 1) := by decide +kernel
theorem dX8_go_5 : decode cX8_go 5 = .ok (.getfield 186, 3) := by decide +kernel
theorem dX8_go_8 : decode cX8_go 8 = .ok (.if_icmp .ge 30, 3) := by decide +kernel
theorem dX8_go_11 : decode cX8_go 11 = .ok (.aload_n 0, 1) := by decide +kernel
theorem dX8_go_12 : decode cX8_go 12 = .ok (.getfield 26, 3) := by decide +kernel
theorem dX8_go_15 : decode cX8_go 15 = .ok (.aload_n 0, 1) := by decide +kernel
theorem dX8_go_16 : decode cX8_go 16 = .ok (.getfield 190, 3) := by decide +kernel
theorem dX8_go_19 : decode cX8_go 19 = .ok (.iaload, 1) := by decide +kernel
theorem dX8_go_20 : decode cX8_go 20 = .ok (.bipush 32, 2) := by decide +kernel
theorem dX8_go_22 : decode cX8_go 22 = .ok (.if_icmp .ne 16, 3) := by decide +kernel
theorem dX8_go_25 : decode cX8_go 25 = .ok (.aload_n 0, 1) := by decide +kernel
theorem dX8_go_26 : decode cX8_go 26 = .ok (.dup, 1) := by decide +kernel
theorem dX8_go_27 : decode cX8_go 27 = .ok (.getfield 190, 3) := by decide +kernel
theorem dX8_go_30 : decode cX8_go 30 = .ok (.iconst 1, 1) := by decide +kernel
theorem dX8_go_31 : decode cX8_go 31 = .ok (.iadd, 1) := by decide +kernel
theorem dX8_go_32 : decode cX8_go 32 = .ok (.putfield 190, 3) := by decide +kernel
theorem dX8_go_35 : decode cX8_go 35 = .ok (.goto (-35), 3) := by decide +kernel
theorem dX8_go_38 : decode cX8_go 38 = .ok (.aload_n 0, 1) := by decide +kernel
theorem dX8_go_39 : decode cX8_go 39 = .ok (.aload_n 0, 1) := by decide +kernel
theorem dX8_go_40 : decode cX8_go 40 = .ok (.getfield 190, 3) := by decide +kernel
theorem dX8_go_43 : decode cX8_go 43 = .ok (.putfield 193, 3) := by decide +kernel
theorem dX8_go_46 : decode cX8_go 46 = .ok (.aload_n 0, 1) := by decide +kernel
theorem dX8_go_47 : decode cX8_go 47 = .ok (.getfield 193, 3) := by decide +kernel
theorem dX8_go_50 : decode cX8_go 50 = .ok (.aload_n 0, 1) := by decide +kernel
theorem dX8_go_51 : decode cX8_go 51 = .ok (.getfield 196, 3) := by decide +kernel
theorem dX8_go_54 : decode cX8_go 54 = .ok (.if_icmp .ne 7, 3) := by decide +kernel
theorem dX8_go_57 : decode cX8_go 57 = .ok (.iconst 1, 1) := by decide +kernel
theorem dX8_go_58 : decode cX8_go 58 = .ok (.goto 4, 3) := by decide +kernel
theorem dX8_go_61 : decode cX8_go 61 = .ok (.iconst 0, 1) := by decide +kernel
theorem dX8_go_62 : decode cX8_go 62 = .ok (.istore_n 1, 1) := by decide +kernel
theorem dX8_go_63 : decode cX8_go 63 = .ok (.aload_n 0, 1) := by decide +kernel
theorem dX8_go_64 : decode cX8_go 64 = .ok (.getfield 193, 3) := by decide +kernel
theorem dX8_go_67 : decode cX8_go 67 = .ok (.aload_n 0, 1) := by decide +kernel
theorem dX8_go_68 : decode cX8_go 68 = .ok (.getfield 186, 3) := by decide +kernel
theorem dX8_go_71 : decode cX8_go 71 = .ok (.if_icmp .ne 11, 3) := by decide +kernel
theorem dX8_go_74 : decode cX8_go 74 = .ok (.aload_n 0, 1) := by decide +kernel
theorem dX8_go_75 : decode cX8_go 75 = .ok (.iconst 0, 1) := by decide +kernel
theorem dX8_go_76 : decode cX8_go 76 = .ok (.putfield 199, 3) := by decide +kernel
theorem dX8_go_79 : decode cX8_go 79 = .ok (.goto 224, 3) := by decide +kernel
theorem dX8_go_82 : decode cX8_go 82 = .ok (.aload_n 0, 1) := by decide +kernel
theorem dX8_go_83 : decode cX8_go 83 = .ok (.aload_n 0, 1) := by decide +kernel
theorem dX8_go_84 : decode cX8_go 84 = .ok (.getfield 193, 3) := by decide +kernel
theorem dX8_go_87 : decode cX8_go 87 = .ok (.invokevirtual 202, 3) := by decide +kernel
theorem dX8_go_90 : decode cX8_go 90 = .ok (.ifCond .eq 64, 3) := by decide +kernel
theorem dX8_go_93 : decode cX8_go 93 = .ok (.aload_n 0, 1) := by decide +kernel
theorem dX8_go_94 : decode cX8_go 94 = .ok (.aload_n 0, 1) := by decide +kernel
theorem dX8_go_95 : decode cX8_go 95 = .ok (.getfield 190, 3) := by decide +kernel
theorem dX8_go_98 : decode cX8_go 98 = .ok (.invokevirtual 202, 3) := by decide +kernel
theorem dX8_go_101 : decode cX8_go 101 = .ok (.ifCond .eq 16, 3) := by decide +kernel
theorem dX8_go_104 : decode cX8_go 104 = .ok (.aload_n 0, 1) := by decide +kernel
theorem dX8_go_105 : decode cX8_go 105 = .ok (.dup, 1) := by decide +kernel
theorem dX8_go_106 : decode cX8_go 106 = .ok (.getfield 190, 3) := by decide +kernel
theorem dX8_go_109 : decode cX8_go 109 = .ok (.iconst 1, 1) := by decide +kernel
theorem dX8_go_110 : decode cX8_go 110 = .ok (.iadd, 1) := by decide +kernel
theorem dX8_go_111 : decode cX8_go 111 = .ok (.putfield 190, 3) := by decide +kernel
theorem dX8_go_114 : decode cX8_go 114 = .ok (.goto (-21), 3) := by decide +kernel
theorem dX8_go_117 : decode cX8_go 117 = .ok (.aload_n 0, 1) := by decide +kernel
theorem dX8_go_118 : decode cX8_go 118 = .ok (.iload_n 1, 1) := by decide +kernel
theorem dX8_go_119 : decode cX8_go 119 = .ok (.ifCond .eq 7, 3) := by decide +kernel
theorem dX8_go_122 : decode cX8_go 122 = .ok (.iconst 4, 1) := by decide +kernel
theorem dX8_go_123 : decode cX8_go 123 = .ok (.goto 4, 3) := by decide +kernel
theorem dX8_go_126 : decode cX8_go 126 = .ok (.iconst 1, 1) := by decide +kernel
theorem dX8_go_127 : decode cX8_go 127 = .ok (.putfield 199, 3) := by decide +kernel
theorem dX8_go_130 : decode cX8_go 130 = .ok (.aload_n 0, 1) := by decide +kernel
theorem dX8_go_131 : decode cX8_go 131 = .ok (.aload_n 0, 1) := by decide +kernel
theorem dX8_go_132 : decode cX8_go 132 = .ok (.getfield 26, 3) := by decide +kernel
theorem dX8_go_135 : decode cX8_go 135 = .ok (.aload_n 0, 1) := by decide +kernel
theorem dX8_go_136 : decode cX8_go 136 = .ok (.getfield 193, 3) := by decide +kernel
theorem dX8_go_139 : decode cX8_go 139 = .ok (.iaload, 1) := by decide +kernel
theorem dX8_go_140 : decode cX8_go 140 = .ok (.putfield 205, 3) := by decide +kernel
theorem dX8_go_143 : decode cX8_go 143 = .ok (.aload_n 0, 1) := by decide +kernel
theorem dX8_go_144 : decode cX8_go 144 = .ok (.aload_n 0, 1) := by decide +kernel
theorem dX8_go_145 : decode cX8_go 145 = .ok (.getfield 190, 3) := by decide +kernel
theorem dX8_go_148 : decode cX8_go 148 = .ok (.putfield 196, 3) := by decide +kernel
theorem dX8_go_151 : decode cX8_go 151 = .ok (.goto 152, 3) := by decide +kernel
theorem dX8_go_154 : decode cX8_go 154 = .ok (.aload_n 0, 1) := by decide +kernel
theorem dX8_go_155 : decode cX8_go 155 = .ok (.aload_n 0, 1) := by decide +kernel
theorem dX8_go_156 : decode cX8_go 156 = .ok (.getfield 193, 3) := by decide +kernel
theorem dX8_go_159 : decode cX8_go 159 = .ok (.invokevirtual 208, 3) := by decide +kernel
theorem dX8_go_162 : decode cX8_go 162 = .ok (.ifCond .eq 113, 3) := by decide +kernel
theorem dX8_go_165 : decode cX8_go 165 = .ok (.aload_n 0, 1) := by decide +kernel
theorem dX8_go_166 : decode cX8_go 166 = .ok (.iconst 0, 1) := by decide +kernel
theorem dX8_go_167 : decode cX8_go 167 = .ok (.putfield 205, 3) := by decide +kernel
theorem dX8_go_170 : decode cX8_go 170 = .ok (.aload_n 0, 1) := by decide +kernel
theorem dX8_go_171 : decode cX8_go 171 = .ok (.aload_n 0, 1) := by decide +kernel
theorem dX8_go_172 : decode cX8_go 172 = .ok (.getfield 190, 3) := by decide +kernel
theorem dX8_go_175 : decode cX8_go 175 = .ok (.invokevirtual 208, 3) := by decide +kernel
theorem dX8_go_178 : decode cX8_go 178 = .ok (.ifCond .eq 60, 3) := by decide +kernel
theorem dX8_go_181 : decode cX8_go 181 = .ok (.aload_n 0, 1) := by decide +kernel
theorem dX8_go_182 : decode cX8_go 182 = .ok (.aload_n 0, 1) := by decide +kernel
theorem dX8_go_183 : decode cX8_go 183 = .ok (.getfield 190, 3) := by decide +kernel
theorem dX8_go_186 : decode cX8_go 186 = .ok (.aload_n 0, 1) := by decide +kernel
theorem dX8_go_187 : decode cX8_go 187 = .ok (.getfield 193, 3) := by decide +kernel
theorem dX8_go_190 : decode cX8_go 190 = .ok (.isub, 1) := by decide +kernel
theorem dX8_go_191 : decode cX8_go 191 = .ok (.iconst 4, 1) := by decide +kernel
theorem dX8_go_192 : decode cX8_go 192 = .ok (.if_icmp .ge 26, 3) := by decide +kernel
theorem dX8_go_195 : decode cX8_go 195 = .ok (.bipush 10, 2) := by decide +kernel
theorem dX8_go_197 : decode cX8_go 197 = .ok (.aload_n 0, 1) := by decide +kernel
theorem dX8_go_198 : decode cX8_go 198 = .ok (.getfield 205, 3) := by decide +kernel
theorem dX8_go_201 : decode cX8_go 201 = .ok (.imul, 1) := by decide +kernel
theorem dX8_go_202 : decode cX8_go 202 = .ok (.aload_n 0, 1) := by decide +kernel
theorem dX8_go_203 : decode cX8_go 203 = .ok (.getfield 26, 3) := by decide +kernel
theorem dX8_go_206 : decode cX8_go 206 = .ok (.aload_n 0, 1) := by decide +kernel
theorem dX8_go_207 : decode cX8_go 207 = .ok (.getfield 190, 3) := by decide +kernel
theorem dX8_go_210 : decode cX8_go 210 = .ok (.iaload, 1) := by decide +kernel
theorem dX8_go_211 : decode cX8_go 211 = .ok (.iadd, 1) := by decide +kernel
theorem dX8_go_212 : decode cX8_go 212 = .ok (.bipush 48, 2) := by decide +kernel
theorem dX8_go_214 : decode cX8_go 214 = .ok (.isub, 1) := by decide +kernel
theorem dX8_go_215 : decode cX8_go 215 = .ok (.goto 7, 3) := by decide +kernel
theorem dX8_go_218 : decode cX8_go 218 = .ok (.aload_n 0, 1) := by decide +kernel
theorem dX8_go_219 : decode cX8_go 219 = .ok (.getfield 205, 3) := by decide +kernel
theorem dX8_go_222 : decode cX8_go 222 = .ok (.putfield 205, 3) := by decide +kernel
theorem dX8_go_225 : decode cX8_go 225 = .ok (.aload_n 0, 1) := by decide +kernel
theorem dX8_go_226 : decode cX8_go 226 = .ok (.dup, 1) := by decide +kernel
theorem dX8_go_227 : decode cX8_go 227 = .ok (.getfield 190, 3) := by decide +kernel
theorem dX8_go_230 : decode cX8_go 230 = .ok (.iconst 1, 1) := by decide +kernel
theorem dX8_go_231 : decode cX8_go 231 = .ok (.iadd, 1) := by decide +kernel
theorem dX8_go_232 : decode cX8_go 232 = .ok (.putfield 190, 3) := by decide +kernel
theorem dX8_go_235 : decode cX8_go 235 = .ok (.goto (-65), 3) := by decide +kernel
theorem dX8_go_238 : decode cX8_go 238 = .ok (.aload_n 0, 1) := by decide +kernel
theorem dX8_go_239 : decode cX8_go 239 = .ok (.iload_n 1, 1) := by decide +kernel
theorem dX8_go_240 : decode cX8_go 240 = .ok (.ifCond .ne 16, 3) := by decide +kernel
theorem dX8_go_243 : decode cX8_go 243 = .ok (.aload_n 0, 1) := by decide +kernel
theorem dX8_go_244 : decode cX8_go 244 = .ok (.getfield 190, 3) := by decide +kernel
theorem dX8_go_247 : decode cX8_go 247 = .ok (.aload_n 0, 1) := by decide +kernel
theorem dX8_go_248 : decode cX8_go 248 = .ok (.getfield 193, 3) := by decide +kernel
theorem dX8_go_251 : decode cX8_go 251 = .ok (.isub, 1) := by decide +kernel
theorem dX8_go_252 : decode cX8_go 252 = .ok (.iconst 4, 1) := by decide +kernel
theorem dX8_go_253 : decode cX8_go 253 = .ok (.if_icmp .le 7, 3) := by decide +kernel
theorem dX8_go_256 : decode cX8_go 256 = .ok (.iconst 4, 1) := by decide +kernel
theorem dX8_go_257 : decode cX8_go 257 = .ok (.goto 4, 3) := by decide +kernel
theorem dX8_go_260 : decode cX8_go 260 = .ok (.iconst 2, 1) := by decide +kernel
theorem dX8_go_261 : decode cX8_go 261 = .ok (.putfield 199, 3) := by decide +kernel
theorem dX8_go_264 : decode cX8_go 264 = .ok (.aload_n 0, 1) := by decide +kernel
theorem dX8_go_265 : decode cX8_go 265 = .ok (.aload_n 0, 1) := by decide +kernel
theorem dX8_go_266 : decode cX8_go 266 = .ok (.getfield 190, 3) := by decide +kernel
theorem dX8_go_269 : decode cX8_go 269 = .ok (.putfield 196, 3) := by decide +kernel
theorem dX8_go_272 : decode cX8_go 272 = .ok (.goto 31, 3) := by decide +kernel
theorem dX8_go_275 : decode cX8_go 275 = .ok (.aload_n 0, 1) := by decide +kernel
theorem dX8_go_276 : decode cX8_go 276 = .ok (.iconst 3, 1) := by decide +kernel
theorem dX8_go_277 : decode cX8_go 277 = .ok (.putfield 199, 3) := by decide +kernel
theorem dX8_go_280 : decode cX8_go 280 = .ok (.aload_n 0, 1) := by decide +kernel
theorem dX8_go_281 : decode cX8_go 281 = .ok (.aload_n 0, 1) := by decide +kernel
theorem dX8_go_282 : decode cX8_go 282 = .ok (.getfield 26, 3) := by decide +kernel
theorem dX8_go_285 : decode cX8_go 285 = .ok (.aload_n 0, 1) := by decide +kernel
theorem dX8_go_286 : decode cX8_go 286 = .ok (.getfield 193, 3) := by decide +kernel
theorem dX8_go_289 : decode cX8_go 289 = .ok (.iaload, 1) := by decide +kernel
theorem dX8_go_290 : decode cX8_go 290 = .ok (.putfield 205, 3) := by decide +kernel
theorem dX8_go_293 : decode cX8_go 293 = .ok (.aload_n 0, 1) := by decide +kernel
theorem dX8_go_294 : decode cX8_go 294 = .ok (.dup, 1) := by decide +kernel
theorem dX8_go_295 : decode cX8_go 295 = .ok (.getfield 190, 3) := by decide +kernel
theorem dX8_go_298 : decode cX8_go 298 = .ok (.iconst 1, 1) := by decide +kernel
theorem dX8_go_299 : decode cX8_go 299 = .ok (.iadd, 1) := by decide +kernel
theorem dX8_go_300 : decode cX8_go 300 = .ok (.putfield 190, 3) := by decide +kernel
theorem dX8_go_303 : decode cX8_go 303 = .ok (.return_, 1) := by decide +kernel
theorem dX8_takesKey_0 : decode cX8_takesKey 0 = .ok (.aload_n 0, 1) := by decide +kernel
theorem dX8_takesKey_1 : decode cX8_takesKey 1 = .ok (.getfield 199, 3) := by decide +kernel
theorem dX8_takesKey_4 : decode cX8_takesKey 4 = .ok (.iconst 1, 1) := by decide +kernel
theorem dX8_takesKey_5 : decode cX8_takesKey 5 = .ok (.if_icmp .eq 5, 3) := by decide +kernel
theorem dX8_takesKey_8 : decode cX8_takesKey 8 = .ok (.iconst 0, 1) := by decide +kernel
theorem dX8_takesKey_9 : decode cX8_takesKey 9 = .ok (.ireturn, 1) := by decide +kernel
theorem dX8_takesKey_10 : decode cX8_takesKey 10 = .ok (.iconst 0, 1) := by decide +kernel
theorem dX8_takesKey_11 : decode cX8_takesKey 11 = .ok (.istore_n 1, 1) := by decide +kernel
theorem dX8_takesKey_12 : decode cX8_takesKey 12 = .ok (.iload_n 1, 1) := by decide +kernel
theorem dX8_takesKey_13 : decode cX8_takesKey 13 = .ok (.iconst 3, 1) := by decide +kernel
theorem dX8_takesKey_14 : decode cX8_takesKey 14 = .ok (.if_icmp .ge 113, 3) := by decide +kernel
theorem dX8_takesKey_17 : decode cX8_takesKey 17 = .ok (.aload_n 0, 1) := by decide +kernel
theorem dX8_takesKey_18 : decode cX8_takesKey 18 = .ok (.getfield 33, 3) := by decide +kernel
theorem dX8_takesKey_21 : decode cX8_takesKey 21 = .ok (.iload_n 1, 1) := by decide +kernel
theorem dX8_takesKey_22 : decode cX8_takesKey 22 = .ok (.iconst 1, 1) := by decide +kernel
theorem dX8_takesKey_23 : decode cX8_takesKey 23 = .ok (.iadd, 1) := by decide +kernel
theorem dX8_takesKey_24 : decode cX8_takesKey 24 = .ok (.iaload, 1) := by decide +kernel
theorem dX8_takesKey_25 : decode cX8_takesKey 25 = .ok (.aload_n 0, 1) := by decide +kernel
theorem dX8_takesKey_26 : decode cX8_takesKey 26 = .ok (.getfield 33, 3) := by decide +kernel
theorem dX8_takesKey_29 : decode cX8_takesKey 29 = .ok (.iload_n 1, 1) := by decide +kernel
theorem dX8_takesKey_30 : decode cX8_takesKey 30 = .ok (.iaload, 1) := by decide +kernel
theorem dX8_takesKey_31 : decode cX8_takesKey 31 = .ok (.isub, 1) := by decide +kernel
theorem dX8_takesKey_32 : decode cX8_takesKey 32 = .ok (.istore_n 2, 1) := by decide +kernel
theorem dX8_takesKey_33 : decode cX8_takesKey 33 = .ok (.iload_n 2, 1) := by decide +kernel
theorem dX8_takesKey_34 : decode cX8_takesKey 34 = .ok (.aload_n 0, 1) := by decide +kernel
theorem dX8_takesKey_35 : decode cX8_takesKey 35 = .ok (.getfield 190, 3) := by decide +kernel
theorem dX8_takesKey_38 : decode cX8_takesKey 38 = .ok (.aload_n 0, 1) := by decide +kernel
theorem dX8_takesKey_39 : decode cX8_takesKey 39 = .ok (.getfield 193, 3) := by decide +kernel
theorem dX8_takesKey_42 : decode cX8_takesKey 42 = .ok (.isub, 1) := by decide +kernel
theorem dX8_takesKey_43 : decode cX8_takesKey 43 = .ok (.if_icmp .ne 7, 3) := by decide +kernel
theorem dX8_takesKey_46 : decode cX8_takesKey 46 = .ok (.iconst 1, 1) := by decide +kernel
theorem dX8_takesKey_47 : decode cX8_takesKey 47 = .ok (.goto 4, 3) := by decide +kernel
theorem dX8_takesKey_50 : decode cX8_takesKey 50 = .ok (.iconst 0, 1) := by decide +kernel
theorem dX8_takesKey_51 : decode cX8_takesKey 51 = .ok (.istore_n 3, 1) := by decide +kernel
theorem dX8_takesKey_52 : decode cX8_takesKey 52 = .ok (.iconst 0, 1) := by decide +kernel
theorem dX8_takesKey_53 : decode cX8_takesKey 53 = .ok (.istore 4, 2) := by decide +kernel
theorem dX8_takesKey_55 : decode cX8_takesKey 55 = .ok (.iload 4, 2) := by decide +kernel
theorem dX8_takesKey_57 : decode cX8_takesKey 57 = .ok (.iload_n 2, 1) := by decide +kernel
theorem dX8_takesKey_58 : decode cX8_takesKey 58 = .ok (.if_icmp .ge 48, 3) := by decide +kernel
theorem dX8_takesKey_61 : decode cX8_takesKey 61 = .ok (.iload_n 3, 1) := by decide +kernel
theorem dX8_takesKey_62 : decode cX8_takesKey 62 = .ok (.ifCond .eq 44, 3) := by decide +kernel
theorem dX8_takesKey_65 : decode cX8_takesKey 65 = .ok (.aload_n 0, 1) := by decide +kernel
theorem dX8_takesKey_66 : decode cX8_takesKey 66 = .ok (.getfield 26, 3) := by decide +kernel
theorem dX8_takesKey_69 : decode cX8_takesKey 69 = .ok (.aload_n 0, 1) := by decide +kernel
theorem dX8_takesKey_70 : decode cX8_takesKey 70 = .ok (.getfield 193, 3) := by decide +kernel
theorem dX8_takesKey_73 : decode cX8_takesKey 73 = .ok (.iload 4, 2) := by decide +kernel
theorem dX8_takesKey_75 : decode cX8_takesKey 75 = .ok (.iadd, 1) := by decide +kernel
theorem dX8_takesKey_76 : decode cX8_takesKey 76 = .ok (.iaload, 1) := by decide +kernel
theorem dX8_takesKey_77 : decode cX8_takesKey 77 = .ok (.aload_n 0, 1) := by decide +kernel
theorem dX8_takesKey_78 : decode cX8_takesKey 78 = .ok (.getfield 29, 3) := by decide +kernel
theorem dX8_takesKey_81 : decode cX8_takesKey 81 = .ok (.aload_n 0, 1) := by decide +kernel
theorem dX8_takesKey_82 : decode cX8_takesKey 82 = .ok (.getfield 33, 3) := by decide +kernel
theorem dX8_takesKey_85 : decode cX8_takesKey 85 = .ok (.iload_n 1, 1) := by decide +kernel
theorem dX8_takesKey_86 : decode cX8_takesKey 86 = .ok (.iaload, 1) := by decide +kernel
theorem dX8_takesKey_87 : decode cX8_takesKey 87 = .ok (.iload 4, 2) := by decide +kernel
theorem dX8_takesKey_89 : decode cX8_takesKey 89 = .ok (.iadd, 1) := by decide +kernel
theorem dX8_takesKey_90 : decode cX8_takesKey 90 = .ok (.caload, 1) := by decide +kernel
theorem dX8_takesKey_91 : decode cX8_takesKey 91 = .ok (.if_icmp .ne 7, 3) := by decide +kernel
theorem dX8_takesKey_94 : decode cX8_takesKey 94 = .ok (.iconst 1, 1) := by decide +kernel
theorem dX8_takesKey_95 : decode cX8_takesKey 95 = .ok (.goto 4, 3) := by decide +kernel
theorem dX8_takesKey_98 : decode cX8_takesKey 98 = .ok (.iconst 0, 1) := by decide +kernel
theorem dX8_takesKey_99 : decode cX8_takesKey 99 = .ok (.istore_n 3, 1) := by decide +kernel
theorem dX8_takesKey_100 : decode cX8_takesKey 100 = .ok (.iinc 4 1, 3) := by decide +kernel
theorem dX8_takesKey_103 : decode cX8_takesKey 103 = .ok (.goto (-48), 3) := by decide +kernel
theorem dX8_takesKey_106 : decode cX8_takesKey 106 = .ok (.iload_n 3, 1) := by decide +kernel
theorem dX8_takesKey_107 : decode cX8_takesKey 107 = .ok (.ifCond .eq 14, 3) := by decide +kernel
theorem dX8_takesKey_110 : decode cX8_takesKey 110 = .ok (.aload_n 0, 1) := by decide +kernel
theorem dX8_takesKey_111 : decode cX8_takesKey 111 = .ok (.iload_n 1, 1) := by decide +kernel
theorem dX8_takesKey_112 : decode cX8_takesKey 112 = .ok (.putfield 211, 3) := by decide +kernel
theorem dX8_takesKey_115 : decode cX8_takesKey 115 = .ok (.aload_n 0, 1) := by decide +kernel
theorem dX8_takesKey_116 : decode cX8_takesKey 116 = .ok (.invokevirtual 214, 3) := by decide +kernel
theorem dX8_takesKey_119 : decode cX8_takesKey 119 = .ok (.iconst 1, 1) := by decide +kernel
theorem dX8_takesKey_120 : decode cX8_takesKey 120 = .ok (.ireturn, 1) := by decide +kernel
theorem dX8_takesKey_121 : decode cX8_takesKey 121 = .ok (.iinc 1 1, 3) := by decide +kernel
theorem dX8_takesKey_124 : decode cX8_takesKey 124 = .ok (.goto (-112), 3) := by decide +kernel
theorem dX8_takesKey_127 : decode cX8_takesKey 127 = .ok (.iconst 0, 1) := by decide +kernel
theorem dX8_takesKey_128 : decode cX8_takesKey 128 = .ok (.ireturn, 1) := by decide +kernel
theorem dX8_nameOf_0 : decode cX8_nameOf 0 = .ok (.aload_n 0, 1) := by decide +kernel
theorem dX8_nameOf_1 : decode cX8_nameOf 1 = .ok (.getfield 211, 3) := by decide +kernel
theorem dX8_nameOf_4 : decode cX8_nameOf 4 = .ok (.lookupswitch 82 #[(0, 28), (1, 60)], 28) := by decide +kernel
theorem dX8_nameOf_32 : decode cX8_nameOf 32 = .ok (.iload_n 1, 1) := by decide +kernel
theorem dX8_nameOf_33 : decode cX8_nameOf 33 = .ok (.bipush 119, 2) := by decide +kernel
theorem dX8_nameOf_35 : decode cX8_nameOf 35 = .ok (.if_icmp .ne 7, 3) := by decide +kernel
theorem dX8_nameOf_38 : decode cX8_nameOf 38 = .ok (.iconst 0, 1) := by decide +kernel
theorem dX8_nameOf_39 : decode cX8_nameOf 39 = .ok (.goto 24, 3) := by decide +kernel
theorem dX8_nameOf_42 : decode cX8_nameOf 42 = .ok (.iload_n 1, 1) := by decide +kernel
theorem dX8_nameOf_43 : decode cX8_nameOf 43 = .ok (.bipush 102, 2) := by decide +kernel
theorem dX8_nameOf_45 : decode cX8_nameOf 45 = .ok (.if_icmp .ne 7, 3) := by decide +kernel
theorem dX8_nameOf_48 : decode cX8_nameOf 48 = .ok (.iconst 1, 1) := by decide +kernel
theorem dX8_nameOf_49 : decode cX8_nameOf 49 = .ok (.goto 14, 3) := by decide +kernel
theorem dX8_nameOf_52 : decode cX8_nameOf 52 = .ok (.iload_n 1, 1) := by decide +kernel
theorem dX8_nameOf_53 : decode cX8_nameOf 53 = .ok (.bipush 120, 2) := by decide +kernel
theorem dX8_nameOf_55 : decode cX8_nameOf 55 = .ok (.if_icmp .ne 7, 3) := by decide +kernel
theorem dX8_nameOf_58 : decode cX8_nameOf 58 = .ok (.iconst 2, 1) := by decide +kernel
theorem dX8_nameOf_59 : decode cX8_nameOf 59 = .ok (.goto 4, 3) := by decide +kernel
theorem dX8_nameOf_62 : decode cX8_nameOf 62 = .ok (.iconst (-1), 1) := by decide +kernel
theorem dX8_nameOf_63 : decode cX8_nameOf 63 = .ok (.ireturn, 1) := by decide +kernel
theorem dX8_nameOf_64 : decode cX8_nameOf 64 = .ok (.iload_n 1, 1) := by decide +kernel
theorem dX8_nameOf_65 : decode cX8_nameOf 65 = .ok (.bipush 110, 2) := by decide +kernel
theorem dX8_nameOf_67 : decode cX8_nameOf 67 = .ok (.if_icmp .ne 7, 3) := by decide +kernel
theorem dX8_nameOf_70 : decode cX8_nameOf 70 = .ok (.iconst 0, 1) := by decide +kernel
theorem dX8_nameOf_71 : decode cX8_nameOf 71 = .ok (.goto 14, 3) := by decide +kernel
theorem dX8_nameOf_74 : decode cX8_nameOf 74 = .ok (.iload_n 1, 1) := by decide +kernel
theorem dX8_nameOf_75 : decode cX8_nameOf 75 = .ok (.bipush 112, 2) := by decide +kernel
theorem dX8_nameOf_77 : decode cX8_nameOf 77 = .ok (.if_icmp .ne 7, 3) := by decide +kernel
theorem dX8_nameOf_80 : decode cX8_nameOf 80 = .ok (.iconst 1, 1) := by decide +kernel
theorem dX8_nameOf_81 : decode cX8_nameOf 81 = .ok (.goto 4, 3) := by decide +kernel
theorem dX8_nameOf_84 : decode cX8_nameOf 84 = .ok (.iconst (-1), 1) := by decide +kernel
theorem dX8_nameOf_85 : decode cX8_nameOf 85 = .ok (.ireturn, 1) := by decide +kernel
theorem dX8_nameOf_86 : decode cX8_nameOf 86 = .ok (.iload_n 1, 1) := by decide +kernel
theorem dX8_nameOf_87 : decode cX8_nameOf 87 = .ok (.bipush 114, 2) := by decide +kernel
theorem dX8_nameOf_89 : decode cX8_nameOf 89 = .ok (.if_icmp .ne 7, 3) := by decide +kernel
theorem dX8_nameOf_92 : decode cX8_nameOf 92 = .ok (.iconst 0, 1) := by decide +kernel
theorem dX8_nameOf_93 : decode cX8_nameOf 93 = .ok (.goto 14, 3) := by decide +kernel
theorem dX8_nameOf_96 : decode cX8_nameOf 96 = .ok (.iload_n 1, 1) := by decide +kernel
theorem dX8_nameOf_97 : decode cX8_nameOf 97 = .ok (.bipush 99, 2) := by decide +kernel
theorem dX8_nameOf_99 : decode cX8_nameOf 99 = .ok (.if_icmp .ne 7, 3) := by decide +kernel
theorem dX8_nameOf_102 : decode cX8_nameOf 102 = .ok (.iconst 1, 1) := by decide +kernel
theorem dX8_nameOf_103 : decode cX8_nameOf 103 = .ok (.goto 4, 3) := by decide +kernel
theorem dX8_nameOf_106 : decode cX8_nameOf 106 = .ok (.iconst (-1), 1) := by decide +kernel
theorem dX8_nameOf_107 : decode cX8_nameOf 107 = .ok (.ireturn, 1) := by decide +kernel
theorem dX8_rank_0 : decode cX8_rank 0 = .ok (.iload_n 0, 1) := by decide +kernel
theorem dX8_rank_1 : decode cX8_rank 1 = .ok (.iconst (-1), 1) := by decide +kernel
theorem dX8_rank_2 : decode cX8_rank 2 = .ok (.if_icmp .ne 7, 3) := by decide +kernel
theorem dX8_rank_5 : decode cX8_rank 5 = .ok (.iconst 1, 1) := by decide +kernel
theorem dX8_rank_6 : decode cX8_rank 6 = .ok (.goto 45, 3) := by decide +kernel
theorem dX8_rank_9 : decode cX8_rank 9 = .ok (.iload_n 0, 1) := by decide +kernel
theorem dX8_rank_10 : decode cX8_rank 10 = .ok (.bipush (-2), 2) := by decide +kernel
theorem dX8_rank_12 : decode cX8_rank 12 = .ok (.if_icmp .ne 7, 3) := by decide +kernel
theorem dX8_rank_15 : decode cX8_rank 15 = .ok (.iconst 2, 1) := by decide +kernel
theorem dX8_rank_16 : decode cX8_rank 16 = .ok (.goto 35, 3) := by decide +kernel
theorem dX8_rank_19 : decode cX8_rank 19 = .ok (.iload_n 0, 1) := by decide +kernel
theorem dX8_rank_20 : decode cX8_rank 20 = .ok (.bipush (-5), 2) := by decide +kernel
theorem dX8_rank_22 : decode cX8_rank 22 = .ok (.if_icmp .lt 7, 3) := by decide +kernel
theorem dX8_rank_25 : decode cX8_rank 25 = .ok (.iconst 3, 1) := by decide +kernel
theorem dX8_rank_26 : decode cX8_rank 26 = .ok (.goto 25, 3) := by decide +kernel
theorem dX8_rank_29 : decode cX8_rank 29 = .ok (.iload_n 0, 1) := by decide +kernel
theorem dX8_rank_30 : decode cX8_rank 30 = .ok (.bipush (-7), 2) := by decide +kernel
theorem dX8_rank_32 : decode cX8_rank 32 = .ok (.if_icmp .lt 7, 3) := by decide +kernel
theorem dX8_rank_35 : decode cX8_rank 35 = .ok (.iconst 4, 1) := by decide +kernel
theorem dX8_rank_36 : decode cX8_rank 36 = .ok (.goto 15, 3) := by decide +kernel
theorem dX8_rank_39 : decode cX8_rank 39 = .ok (.iload_n 0, 1) := by decide +kernel
theorem dX8_rank_40 : decode cX8_rank 40 = .ok (.bipush (-9), 2) := by decide +kernel
theorem dX8_rank_42 : decode cX8_rank 42 = .ok (.if_icmp .lt 7, 3) := by decide +kernel
theorem dX8_rank_45 : decode cX8_rank 45 = .ok (.iconst 5, 1) := by decide +kernel
theorem dX8_rank_46 : decode cX8_rank 46 = .ok (.goto 5, 3) := by decide +kernel
theorem dX8_rank_49 : decode cX8_rank 49 = .ok (.bipush 6, 2) := by decide +kernel
theorem dX8_rank_51 : decode cX8_rank 51 = .ok (.ireturn, 1) := by decide +kernel
theorem dX8_settle_0 : decode cX8_settle 0 = .ok (.aload_n 0, 1) := by decide +kernel
theorem dX8_settle_1 : decode cX8_settle 1 = .ok (.getfield 217, 3) := by decide +kernel
theorem dX8_settle_4 : decode cX8_settle 4 = .ok (.ifCond .le 78, 3) := by decide +kernel
theorem dX8_settle_7 : decode cX8_settle 7 = .ok (.aload_n 0, 1) := by decide +kernel
theorem dX8_settle_8 : decode cX8_settle 8 = .ok (.getfield 39, 3) := by decide +kernel
theorem dX8_settle_11 : decode cX8_settle 11 = .ok (.aload_n 0, 1) := by decide +kernel
theorem dX8_settle_12 : decode cX8_settle 12 = .ok (.getfield 217, 3) := by decide +kernel
theorem dX8_settle_15 : decode cX8_settle 15 = .ok (.iconst 1, 1) := by decide +kernel
theorem dX8_settle_16 : decode cX8_settle 16 = .ok (.isub, 1) := by decide +kernel
theorem dX8_settle_17 : decode cX8_settle 17 = .ok (.iaload, 1) := by decide +kernel
theorem dX8_settle_18 : decode cX8_settle 18 = .ok (.bipush (-11), 2) := by decide +kernel
theorem dX8_settle_20 : decode cX8_settle 20 = .ok (.if_icmp .eq 62, 3) := by decide +kernel
theorem dX8_settle_23 : decode cX8_settle 23 = .ok (.aload_n 0, 1) := by decide +kernel
theorem dX8_settle_24 : decode cX8_settle 24 = .ok (.getfield 39, 3) := by decide +kernel
theorem dX8_settle_27 : decode cX8_settle 27 = .ok (.aload_n 0, 1) := by decide +kernel
theorem dX8_settle_28 : decode cX8_settle 28 = .ok (.getfield 217, 3) := by decide +kernel
theorem dX8_settle_31 : decode cX8_settle 31 = .ok (.iconst 1, 1) := by decide +kernel
theorem dX8_settle_32 : decode cX8_settle 32 = .ok (.isub, 1) := by decide +kernel
theorem dX8_settle_33 : decode cX8_settle 33 = .ok (.iaload, 1) := by decide +kernel
theorem dX8_settle_34 : decode cX8_settle 34 = .ok (.invokestatic 220, 3) := by decide +kernel
theorem dX8_settle_37 : decode cX8_settle 37 = .ok (.iload_n 1, 1) := by decide +kernel
theorem dX8_settle_38 : decode cX8_settle 38 = .ok (.if_icmp .lt 44, 3) := by decide +kernel
theorem dX8_settle_41 : decode cX8_settle 41 = .ok (.aload_n 0, 1) := by decide +kernel
theorem dX8_settle_42 : decode cX8_settle 42 = .ok (.dup, 1) := by decide +kernel
theorem dX8_settle_43 : decode cX8_settle 43 = .ok (.getfield 217, 3) := by decide +kernel
theorem dX8_settle_46 : decode cX8_settle 46 = .ok (.iconst 1, 1) := by decide +kernel
theorem dX8_settle_47 : decode cX8_settle 47 = .ok (.isub, 1) := by decide +kernel
theorem dX8_settle_48 : decode cX8_settle 48 = .ok (.putfield 217, 3) := by decide +kernel
theorem dX8_settle_51 : decode cX8_settle 51 = .ok (.aload_n 0, 1) := by decide +kernel
theorem dX8_settle_52 : decode cX8_settle 52 = .ok (.getfield 36, 3) := by decide +kernel
theorem dX8_settle_55 : decode cX8_settle 55 = .ok (.aload_n 0, 1) := by decide +kernel
theorem dX8_settle_56 : decode cX8_settle 56 = .ok (.getfield 223, 3) := by decide +kernel
theorem dX8_settle_59 : decode cX8_settle 59 = .ok (.aload_n 0, 1) := by decide +kernel
theorem dX8_settle_60 : decode cX8_settle 60 = .ok (.getfield 39, 3) := by decide +kernel
theorem dX8_settle_63 : decode cX8_settle 63 = .ok (.aload_n 0, 1) := by decide +kernel
theorem dX8_settle_64 : decode cX8_settle 64 = .ok (.getfield 217, 3) := by decide +kernel
theorem dX8_settle_67 : decode cX8_settle 67 = .ok (.iaload, 1) := by decide +kernel
theorem dX8_settle_68 : decode cX8_settle 68 = .ok (.iastore, 1) := by decide +kernel
theorem dX8_settle_69 : decode cX8_settle 69 = .ok (.aload_n 0, 1) := by decide +kernel
theorem dX8_settle_70 : decode cX8_settle 70 = .ok (.dup, 1) := by decide +kernel
theorem dX8_settle_71 : decode cX8_settle 71 = .ok (.getfield 223, 3) := by decide +kernel
theorem dX8_settle_74 : decode cX8_settle 74 = .ok (.iconst 1, 1) := by decide +kernel
theorem dX8_settle_75 : decode cX8_settle 75 = .ok (.iadd, 1) := by decide +kernel
theorem dX8_settle_76 : decode cX8_settle 76 = .ok (.putfield 223, 3) := by decide +kernel
theorem dX8_settle_79 : decode cX8_settle 79 = .ok (.goto (-79), 3) := by decide +kernel
theorem dX8_settle_82 : decode cX8_settle 82 = .ok (.return_, 1) := by decide +kernel
theorem dX8_signHere_0 : decode cX8_signHere 0 = .ok (.aload_n 0, 1) := by decide +kernel
theorem dX8_signHere_1 : decode cX8_signHere 1 = .ok (.getfield 199, 3) := by decide +kernel
theorem dX8_signHere_4 : decode cX8_signHere 4 = .ok (.iconst 3, 1) := by decide +kernel
theorem dX8_signHere_5 : decode cX8_signHere 5 = .ok (.if_icmp .eq 5, 3) := by decide +kernel
theorem dX8_signHere_8 : decode cX8_signHere 8 = .ok (.iconst 0, 1) := by decide +kernel
theorem dX8_signHere_9 : decode cX8_signHere 9 = .ok (.ireturn, 1) := by decide +kernel
theorem dX8_signHere_10 : decode cX8_signHere 10 = .ok (.aload_n 0, 1) := by decide +kernel
theorem dX8_signHere_11 : decode cX8_signHere 11 = .ok (.getfield 205, 3) := by decide +kernel
theorem dX8_signHere_14 : decode cX8_signHere 14 = .ok (.lookupswitch 108 #[(38, 84), (42, 102), (43, 96), (45, 99), (47, 105), (60, 87), (61, 90), (62, 93), (124, 82)], 82) := by decide +kernel
theorem dX8_signHere_96 : decode cX8_signHere 96 = .ok (.iconst (-1), 1) := by decide +kernel
theorem dX8_signHere_97 : decode cX8_signHere 97 = .ok (.ireturn, 1) := by decide +kernel
theorem dX8_signHere_98 : decode cX8_signHere 98 = .ok (.bipush (-2), 2) := by decide +kernel
theorem dX8_signHere_100 : decode cX8_signHere 100 = .ok (.ireturn, 1) := by decide +kernel
theorem dX8_signHere_101 : decode cX8_signHere 101 = .ok (.bipush (-3), 2) := by decide +kernel
theorem dX8_signHere_103 : decode cX8_signHere 103 = .ok (.ireturn, 1) := by decide +kernel
theorem dX8_signHere_104 : decode cX8_signHere 104 = .ok (.bipush (-4), 2) := by decide +kernel
theorem dX8_signHere_106 : decode cX8_signHere 106 = .ok (.ireturn, 1) := by decide +kernel
theorem dX8_signHere_107 : decode cX8_signHere 107 = .ok (.bipush (-5), 2) := by decide +kernel
theorem dX8_signHere_109 : decode cX8_signHere 109 = .ok (.ireturn, 1) := by decide +kernel
theorem dX8_signHere_110 : decode cX8_signHere 110 = .ok (.bipush (-6), 2) := by decide +kernel
theorem dX8_signHere_112 : decode cX8_signHere 112 = .ok (.ireturn, 1) := by decide +kernel
theorem dX8_signHere_113 : decode cX8_signHere 113 = .ok (.bipush (-7), 2) := by decide +kernel
theorem dX8_signHere_115 : decode cX8_signHere 115 = .ok (.ireturn, 1) := by decide +kernel
theorem dX8_signHere_116 : decode cX8_signHere 116 = .ok (.bipush (-8), 2) := by decide +kernel
theorem dX8_signHere_118 : decode cX8_signHere 118 = .ok (.ireturn, 1) := by decide +kernel
theorem dX8_signHere_119 : decode cX8_signHere 119 = .ok (.bipush (-9), 2) := by decide +kernel
theorem dX8_signHere_121 : decode cX8_signHere 121 = .ok (.ireturn, 1) := by decide +kernel
theorem dX8_signHere_122 : decode cX8_signHere 122 = .ok (.iconst 0, 1) := by decide +kernel
theorem dX8_signHere_123 : decode cX8_signHere 123 = .ok (.ireturn, 1) := by decide +kernel
theorem dX8_takesPart_0 : decode cX8_takesPart 0 = .ok (.aload_n 0, 1) := by decide +kernel
theorem dX8_takesPart_1 : decode cX8_takesPart 1 = .ok (.getfield 199, 3) := by decide +kernel
theorem dX8_takesPart_4 : decode cX8_takesPart 4 = .ok (.iconst 1, 1) := by decide +kernel
theorem dX8_takesPart_5 : decode cX8_takesPart 5 = .ok (.if_icmp .ne 31, 3) := by decide +kernel
theorem dX8_takesPart_8 : decode cX8_takesPart 8 = .ok (.aload_n 0, 1) := by decide +kernel
theorem dX8_takesPart_9 : decode cX8_takesPart 9 = .ok (.getfield 190, 3) := by decide +kernel
theorem dX8_takesPart_12 : decode cX8_takesPart 12 = .ok (.aload_n 0, 1) := by decide +kernel
theorem dX8_takesPart_13 : decode cX8_takesPart 13 = .ok (.getfield 193, 3) := by decide +kernel
theorem dX8_takesPart_16 : decode cX8_takesPart 16 = .ok (.isub, 1) := by decide +kernel
theorem dX8_takesPart_17 : decode cX8_takesPart 17 = .ok (.iconst 1, 1) := by decide +kernel
theorem dX8_takesPart_18 : decode cX8_takesPart 18 = .ok (.if_icmp .ne 18, 3) := by decide +kernel
theorem dX8_takesPart_21 : decode cX8_takesPart 21 = .ok (.aload_n 0, 1) := by decide +kernel
theorem dX8_takesPart_22 : decode cX8_takesPart 22 = .ok (.aload_n 0, 1) := by decide +kernel
theorem dX8_takesPart_23 : decode cX8_takesPart 23 = .ok (.getfield 205, 3) := by decide +kernel
theorem dX8_takesPart_26 : decode cX8_takesPart 26 = .ok (.invokevirtual 226, 3) := by decide +kernel
theorem dX8_takesPart_29 : decode cX8_takesPart 29 = .ok (.ifCond .lt 7, 3) := by decide +kernel
theorem dX8_takesPart_32 : decode cX8_takesPart 32 = .ok (.iconst 1, 1) := by decide +kernel
theorem dX8_takesPart_33 : decode cX8_takesPart 33 = .ok (.goto 4, 3) := by decide +kernel
theorem dX8_takesPart_36 : decode cX8_takesPart 36 = .ok (.iconst 0, 1) := by decide +kernel
theorem dX8_takesPart_37 : decode cX8_takesPart 37 = .ok (.istore_n 1, 1) := by decide +kernel
theorem dX8_takesPart_38 : decode cX8_takesPart 38 = .ok (.aload_n 0, 1) := by decide +kernel
theorem dX8_takesPart_39 : decode cX8_takesPart 39 = .ok (.getfield 199, 3) := by decide +kernel
theorem dX8_takesPart_42 : decode cX8_takesPart 42 = .ok (.iconst 2, 1) := by decide +kernel
theorem dX8_takesPart_43 : decode cX8_takesPart 43 = .ok (.if_icmp .eq 9, 3) := by decide +kernel
theorem dX8_takesPart_46 : decode cX8_takesPart 46 = .ok (.iload_n 1, 1) := by decide +kernel
theorem dX8_takesPart_47 : decode cX8_takesPart 47 = .ok (.ifCond .ne 5, 3) := by decide +kernel
theorem dX8_takesPart_50 : decode cX8_takesPart 50 = .ok (.iconst 0, 1) := by decide +kernel
theorem dX8_takesPart_51 : decode cX8_takesPart 51 = .ok (.ireturn, 1) := by decide +kernel
theorem dX8_takesPart_52 : decode cX8_takesPart 52 = .ok (.aload_n 0, 1) := by decide +kernel
theorem dX8_takesPart_53 : decode cX8_takesPart 53 = .ok (.getfield 36, 3) := by decide +kernel
theorem dX8_takesPart_56 : decode cX8_takesPart 56 = .ok (.aload_n 0, 1) := by decide +kernel
theorem dX8_takesPart_57 : decode cX8_takesPart 57 = .ok (.getfield 223, 3) := by decide +kernel
theorem dX8_takesPart_60 : decode cX8_takesPart 60 = .ok (.aload_n 0, 1) := by decide +kernel
theorem dX8_takesPart_61 : decode cX8_takesPart 61 = .ok (.getfield 199, 3) := by decide +kernel
theorem dX8_takesPart_64 : decode cX8_takesPart 64 = .ok (.iconst 2, 1) := by decide +kernel
theorem dX8_takesPart_65 : decode cX8_takesPart 65 = .ok (.if_icmp .ne 10, 3) := by decide +kernel
theorem dX8_takesPart_68 : decode cX8_takesPart 68 = .ok (.aload_n 0, 1) := by decide +kernel
theorem dX8_takesPart_69 : decode cX8_takesPart 69 = .ok (.getfield 205, 3) := by decide +kernel
theorem dX8_takesPart_72 : decode cX8_takesPart 72 = .ok (.goto 15, 3) := by decide +kernel
theorem dX8_takesPart_75 : decode cX8_takesPart 75 = .ok (.sipush 10000, 3) := by decide +kernel
theorem dX8_takesPart_78 : decode cX8_takesPart 78 = .ok (.aload_n 0, 1) := by decide +kernel
theorem dX8_takesPart_79 : decode cX8_takesPart 79 = .ok (.aload_n 0, 1) := by decide +kernel
theorem dX8_takesPart_80 : decode cX8_takesPart 80 = .ok (.getfield 205, 3) := by decide +kernel
theorem dX8_takesPart_83 : decode cX8_takesPart 83 = .ok (.invokevirtual 226, 3) := by decide +kernel
theorem dX8_takesPart_86 : decode cX8_takesPart 86 = .ok (.iadd, 1) := by decide +kernel
theorem dX8_takesPart_87 : decode cX8_takesPart 87 = .ok (.iastore, 1) := by decide +kernel
theorem dX8_takesPart_88 : decode cX8_takesPart 88 = .ok (.aload_n 0, 1) := by decide +kernel
theorem dX8_takesPart_89 : decode cX8_takesPart 89 = .ok (.dup, 1) := by decide +kernel
theorem dX8_takesPart_90 : decode cX8_takesPart 90 = .ok (.getfield 223, 3) := by decide +kernel
theorem dX8_takesPart_93 : decode cX8_takesPart 93 = .ok (.iconst 1, 1) := by decide +kernel
theorem dX8_takesPart_94 : decode cX8_takesPart 94 = .ok (.iadd, 1) := by decide +kernel
theorem dX8_takesPart_95 : decode cX8_takesPart 95 = .ok (.putfield 223, 3) := by decide +kernel
theorem dX8_takesPart_98 : decode cX8_takesPart 98 = .ok (.aload_n 0, 1) := by decide +kernel
theorem dX8_takesPart_99 : decode cX8_takesPart 99 = .ok (.dup, 1) := by decide +kernel
theorem dX8_takesPart_100 : decode cX8_takesPart 100 = .ok (.getfield 229, 3) := by decide +kernel
theorem dX8_takesPart_103 : decode cX8_takesPart 103 = .ok (.iconst 1, 1) := by decide +kernel
theorem dX8_takesPart_104 : decode cX8_takesPart 104 = .ok (.iadd, 1) := by decide +kernel
theorem dX8_takesPart_105 : decode cX8_takesPart 105 = .ok (.putfield 229, 3) := by decide +kernel
theorem dX8_takesPart_108 : decode cX8_takesPart 108 = .ok (.aload_n 0, 1) := by decide +kernel
theorem dX8_takesPart_109 : decode cX8_takesPart 109 = .ok (.bipush 6, 2) := by decide +kernel
theorem dX8_takesPart_111 : decode cX8_takesPart 111 = .ok (.invokevirtual 232, 3) := by decide +kernel
theorem dX8_takesPart_114 : decode cX8_takesPart 114 = .ok (.aload_n 0, 1) := by decide +kernel
theorem dX8_takesPart_115 : decode cX8_takesPart 115 = .ok (.invokevirtual 214, 3) := by decide +kernel
theorem dX8_takesPart_118 : decode cX8_takesPart 118 = .ok (.iconst 1, 1) := by decide +kernel
theorem dX8_takesPart_119 : decode cX8_takesPart 119 = .ok (.ireturn, 1) := by decide +kernel
theorem dX8_takesE_0 : decode cX8_takesE 0 = .ok (.iconst 0, 1) := by decide +kernel
theorem dX8_takesE_1 : decode cX8_takesE 1 = .ok (.istore_n 1, 1) := by decide +kernel
theorem dX8_takesE_2 : decode cX8_takesE 2 = .ok (.iconst 0, 1) := by decide +kernel
theorem dX8_takesE_3 : decode cX8_takesE 3 = .ok (.istore_n 2, 1) := by decide +kernel
theorem dX8_takesE_4 : decode cX8_takesE 4 = .ok (.iconst 1, 1) := by decide +kernel
theorem dX8_takesE_5 : decode cX8_takesE 5 = .ok (.istore_n 3, 1) := by decide +kernel
theorem dX8_takesE_6 : decode cX8_takesE 6 = .ok (.aload_n 0, 1) := by decide +kernel
theorem dX8_takesE_7 : decode cX8_takesE 7 = .ok (.iconst 0, 1) := by decide +kernel
theorem dX8_takesE_8 : decode cX8_takesE 8 = .ok (.putfield 223, 3) := by decide +kernel
theorem dX8_takesE_11 : decode cX8_takesE 11 = .ok (.aload_n 0, 1) := by decide +kernel
theorem dX8_takesE_12 : decode cX8_takesE 12 = .ok (.iconst 0, 1) := by decide +kernel
theorem dX8_takesE_13 : decode cX8_takesE 13 = .ok (.putfield 229, 3) := by decide +kernel
theorem dX8_takesE_16 : decode cX8_takesE 16 = .ok (.aload_n 0, 1) := by decide +kernel
theorem dX8_takesE_17 : decode cX8_takesE 17 = .ok (.iconst 0, 1) := by decide +kernel
theorem dX8_takesE_18 : decode cX8_takesE 18 = .ok (.putfield 217, 3) := by decide +kernel
theorem dX8_takesE_21 : decode cX8_takesE 21 = .ok (.aload_n 0, 1) := by decide +kernel
theorem dX8_takesE_22 : decode cX8_takesE 22 = .ok (.getfield 42, 3) := by decide +kernel
theorem dX8_takesE_25 : decode cX8_takesE 25 = .ok (.iconst 0, 1) := by decide +kernel
theorem dX8_takesE_26 : decode cX8_takesE 26 = .ok (.iconst 0, 1) := by decide +kernel
theorem dX8_takesE_27 : decode cX8_takesE 27 = .ok (.bastore, 1) := by decide +kernel
theorem dX8_takesE_28 : decode cX8_takesE 28 = .ok (.iload_n 3, 1) := by decide +kernel
theorem dX8_takesE_29 : decode cX8_takesE 29 = .ok (.ifCond .ne 10, 3) := by decide +kernel
theorem dX8_takesE_32 : decode cX8_takesE 32 = .ok (.aload_n 0, 1) := by decide +kernel
theorem dX8_takesE_33 : decode cX8_takesE 33 = .ok (.getfield 199, 3) := by decide +kernel
theorem dX8_takesE_36 : decode cX8_takesE 36 = .ok (.ifCond .eq 309, 3) := by decide +kernel
theorem dX8_takesE_39 : decode cX8_takesE 39 = .ok (.iload_n 3, 1) := by decide +kernel
theorem dX8_takesE_40 : decode cX8_takesE 40 = .ok (.ifCond .eq 140, 3) := by decide +kernel
theorem dX8_takesE_43 : decode cX8_takesE 43 = .ok (.aload_n 0, 1) := by decide +kernel
theorem dX8_takesE_44 : decode cX8_takesE 44 = .ok (.getfield 199, 3) := by decide +kernel
theorem dX8_takesE_47 : decode cX8_takesE 47 = .ok (.iconst 3, 1) := by decide +kernel
theorem dX8_takesE_48 : decode cX8_takesE 48 = .ok (.if_icmp .ne 49, 3) := by decide +kernel
theorem dX8_takesE_51 : decode cX8_takesE 51 = .ok (.aload_n 0, 1) := by decide +kernel
theorem dX8_takesE_52 : decode cX8_takesE 52 = .ok (.getfield 205, 3) := by decide +kernel
theorem dX8_takesE_55 : decode cX8_takesE 55 = .ok (.bipush 33, 2) := by decide +kernel
theorem dX8_takesE_57 : decode cX8_takesE 57 = .ok (.if_icmp .ne 40, 3) := by decide +kernel
theorem dX8_takesE_60 : decode cX8_takesE 60 = .ok (.iload_n 2, 1) := by decide +kernel
theorem dX8_takesE_61 : decode cX8_takesE 61 = .ok (.bipush 8, 2) := by decide +kernel
theorem dX8_takesE_63 : decode cX8_takesE 63 = .ok (.if_icmp .ge 34, 3) := by decide +kernel
theorem dX8_takesE_66 : decode cX8_takesE 66 = .ok (.aload_n 0, 1) := by decide +kernel
theorem dX8_takesE_67 : decode cX8_takesE 67 = .ok (.getfield 39, 3) := by decide +kernel
theorem dX8_takesE_70 : decode cX8_takesE 70 = .ok (.aload_n 0, 1) := by decide +kernel
theorem dX8_takesE_71 : decode cX8_takesE 71 = .ok (.getfield 217, 3) := by decide +kernel
theorem dX8_takesE_74 : decode cX8_takesE 74 = .ok (.bipush (-10), 2) := by decide +kernel
theorem dX8_takesE_76 : decode cX8_takesE 76 = .ok (.iastore, 1) := by decide +kernel
theorem dX8_takesE_77 : decode cX8_takesE 77 = .ok (.aload_n 0, 1) := by decide +kernel
theorem dX8_takesE_78 : decode cX8_takesE 78 = .ok (.dup, 1) := by decide +kernel
theorem dX8_takesE_79 : decode cX8_takesE 79 = .ok (.getfield 217, 3) := by decide +kernel
theorem dX8_takesE_82 : decode cX8_takesE 82 = .ok (.iconst 1, 1) := by decide +kernel
theorem dX8_takesE_83 : decode cX8_takesE 83 = .ok (.iadd, 1) := by decide +kernel
theorem dX8_takesE_84 : decode cX8_takesE 84 = .ok (.putfield 217, 3) := by decide +kernel
theorem dX8_takesE_87 : decode cX8_takesE 87 = .ok (.iinc 2 1, 3) := by decide +kernel
theorem dX8_takesE_90 : decode cX8_takesE 90 = .ok (.aload_n 0, 1) := by decide +kernel
theorem dX8_takesE_91 : decode cX8_takesE 91 = .ok (.invokevirtual 214, 3) := by decide +kernel
theorem dX8_takesE_94 : decode cX8_takesE 94 = .ok (.goto 78, 3) := by decide +kernel
theorem dX8_takesE_97 : decode cX8_takesE 97 = .ok (.aload_n 0, 1) := by decide +kernel
theorem dX8_takesE_98 : decode cX8_takesE 98 = .ok (.getfield 199, 3) := by decide +kernel
theorem dX8_takesE_101 : decode cX8_takesE 101 = .ok (.iconst 3, 1) := by decide +kernel
theorem dX8_takesE_102 : decode cX8_takesE 102 = .ok (.if_icmp .ne 56, 3) := by decide +kernel
theorem dX8_takesE_105 : decode cX8_takesE 105 = .ok (.aload_n 0, 1) := by decide +kernel
theorem dX8_takesE_106 : decode cX8_takesE 106 = .ok (.getfield 205, 3) := by decide +kernel
theorem dX8_takesE_109 : decode cX8_takesE 109 = .ok (.bipush 40, 2) := by decide +kernel
theorem dX8_takesE_111 : decode cX8_takesE 111 = .ok (.if_icmp .ne 47, 3) := by decide +kernel
theorem dX8_takesE_114 : decode cX8_takesE 114 = .ok (.iload_n 1, 1) := by decide +kernel
theorem dX8_takesE_115 : decode cX8_takesE 115 = .ok (.bipush 8, 2) := by decide +kernel
theorem dX8_takesE_117 : decode cX8_takesE 117 = .ok (.if_icmp .ge 41, 3) := by decide +kernel
theorem dX8_takesE_120 : decode cX8_takesE 120 = .ok (.aload_n 0, 1) := by decide +kernel
theorem dX8_takesE_121 : decode cX8_takesE 121 = .ok (.getfield 39, 3) := by decide +kernel
theorem dX8_takesE_124 : decode cX8_takesE 124 = .ok (.aload_n 0, 1) := by decide +kernel
theorem dX8_takesE_125 : decode cX8_takesE 125 = .ok (.getfield 217, 3) := by decide +kernel
theorem dX8_takesE_128 : decode cX8_takesE 128 = .ok (.bipush (-11), 2) := by decide +kernel
theorem dX8_takesE_130 : decode cX8_takesE 130 = .ok (.iastore, 1) := by decide +kernel
theorem dX8_takesE_131 : decode cX8_takesE 131 = .ok (.aload_n 0, 1) := by decide +kernel
theorem dX8_takesE_132 : decode cX8_takesE 132 = .ok (.dup, 1) := by decide +kernel
theorem dX8_takesE_133 : decode cX8_takesE 133 = .ok (.getfield 217, 3) := by decide +kernel
theorem dX8_takesE_136 : decode cX8_takesE 136 = .ok (.iconst 1, 1) := by decide +kernel
theorem dX8_takesE_137 : decode cX8_takesE 137 = .ok (.iadd, 1) := by decide +kernel
theorem dX8_takesE_138 : decode cX8_takesE 138 = .ok (.putfield 217, 3) := by decide +kernel
theorem dX8_takesE_141 : decode cX8_takesE 141 = .ok (.iinc 1 1, 3) := by decide +kernel
theorem dX8_takesE_144 : decode cX8_takesE 144 = .ok (.aload_n 0, 1) := by decide +kernel
theorem dX8_takesE_145 : decode cX8_takesE 145 = .ok (.getfield 42, 3) := by decide +kernel
theorem dX8_takesE_148 : decode cX8_takesE 148 = .ok (.iload_n 1, 1) := by decide +kernel
theorem dX8_takesE_149 : decode cX8_takesE 149 = .ok (.iconst 0, 1) := by decide +kernel
theorem dX8_takesE_150 : decode cX8_takesE 150 = .ok (.bastore, 1) := by decide +kernel
theorem dX8_takesE_151 : decode cX8_takesE 151 = .ok (.aload_n 0, 1) := by decide +kernel
theorem dX8_takesE_152 : decode cX8_takesE 152 = .ok (.invokevirtual 214, 3) := by decide +kernel
theorem dX8_takesE_155 : decode cX8_takesE 155 = .ok (.goto 17, 3) := by decide +kernel
theorem dX8_takesE_158 : decode cX8_takesE 158 = .ok (.aload_n 0, 1) := by decide +kernel
