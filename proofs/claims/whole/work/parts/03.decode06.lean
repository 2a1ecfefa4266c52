theorem dX8_isSet_7 : decode cX8_isSet 7 = .ok (.iconst 5, 1) := by decide +kernel
theorem dX8_isSet_8 : decode cX8_isSet 8 = .ok (.iaload, 1) := by decide +kernel
theorem dX8_isSet_9 : decode cX8_isSet 9 = .ok (.ishl, 1) := by decide +kernel
theorem dX8_isSet_10 : decode cX8_isSet 10 = .ok (.iconst 1, 1) := by decide +kernel
theorem dX8_isSet_11 : decode cX8_isSet 11 = .ok (.isub, 1) := by decide +kernel
theorem dX8_isSet_12 : decode cX8_isSet 12 = .ok (.invokestatic 48, 3) := by decide +kernel
theorem dX8_isSet_15 : decode cX8_isSet 15 = .ok (.ireturn, 1) := by decide +kernel
theorem dX8_calendar_0 : decode cX8_calendar 0 = .ok (.aload_n 0, 1) := by decide +kernel
theorem dX8_calendar_1 : decode cX8_calendar 1 = .ok (.iload_n 1, 1) := by decide +kernel
theorem dX8_calendar_2 : decode cX8_calendar 2 = .ok (.invokevirtual 139, 3) := by decide +kernel
theorem dX8_calendar_5 : decode cX8_calendar 5 = .ok (.ifCond .ne 10, 3) := by decide +kernel
theorem dX8_calendar_8 : decode cX8_calendar 8 = .ok (.aload_n 0, 1) := by decide +kernel
theorem dX8_calendar_9 : decode cX8_calendar 9 = .ok (.ldc 67, 2) := by decide +kernel
theorem dX8_calendar_11 : decode cX8_calendar 11 = .ok (.invokevirtual 56, 3) := by decide +kernel
theorem dX8_calendar_14 : decode cX8_calendar 14 = .ok (.ireturn, 1) := by decide +kernel
theorem dX8_calendar_15 : decode cX8_calendar 15 = .ok (.iconst 0, 1) := by decide +kernel
theorem dX8_calendar_16 : decode cX8_calendar 16 = .ok (.istore_n 2, 1) := by decide +kernel
theorem dX8_calendar_17 : decode cX8_calendar 17 = .ok (.iload_n 2, 1) := by decide +kernel
theorem dX8_calendar_18 : decode cX8_calendar 18 = .ok (.sipush 300, 3) := by decide +kernel
theorem dX8_calendar_21 : decode cX8_calendar 21 = .ok (.if_icmp .ge 25, 3) := by decide +kernel
theorem dX8_calendar_24 : decode cX8_calendar 24 = .ok (.aload_n 0, 1) := by decide +kernel
theorem dX8_calendar_25 : decode cX8_calendar 25 = .ok (.getfield 31, 3) := by decide +kernel
theorem dX8_calendar_28 : decode cX8_calendar 28 = .ok (.iload_n 2, 1) := by decide +kernel
theorem dX8_calendar_29 : decode cX8_calendar 29 = .ok (.aload_n 0, 1) := by decide +kernel
theorem dX8_calendar_30 : decode cX8_calendar 30 = .ok (.getfield 7, 3) := by decide +kernel
theorem dX8_calendar_33 : decode cX8_calendar 33 = .ok (.sipush 244, 3) := by decide +kernel
theorem dX8_calendar_36 : decode cX8_calendar 36 = .ok (.iload_n 2, 1) := by decide +kernel
theorem dX8_calendar_37 : decode cX8_calendar 37 = .ok (.iadd, 1) := by decide +kernel
theorem dX8_calendar_38 : decode cX8_calendar 38 = .ok (.iaload, 1) := by decide +kernel
theorem dX8_calendar_39 : decode cX8_calendar 39 = .ok (.iastore, 1) := by decide +kernel
theorem dX8_calendar_40 : decode cX8_calendar 40 = .ok (.iinc 2 1, 3) := by decide +kernel
theorem dX8_calendar_43 : decode cX8_calendar 43 = .ok (.goto (-26), 3) := by decide +kernel
theorem dX8_calendar_46 : decode cX8_calendar 46 = .ok (.aload_n 0, 1) := by decide +kernel
theorem dX8_calendar_47 : decode cX8_calendar 47 = .ok (.iload_n 1, 1) := by decide +kernel
theorem dX8_calendar_48 : decode cX8_calendar 48 = .ok (.invokevirtual 142, 3) := by decide +kernel
theorem dX8_calendar_51 : decode cX8_calendar 51 = .ok (.istore_n 2, 1) := by decide +kernel
theorem dX8_calendar_52 : decode cX8_calendar 52 = .ok (.iconst 0, 1) := by decide +kernel
theorem dX8_calendar_53 : decode cX8_calendar 53 = .ok (.istore_n 3, 1) := by decide +kernel
theorem dX8_calendar_54 : decode cX8_calendar 54 = .ok (.iload_n 3, 1) := by decide +kernel
theorem dX8_calendar_55 : decode cX8_calendar 55 = .ok (.sipush 300, 3) := by decide +kernel
theorem dX8_calendar_58 : decode cX8_calendar 58 = .ok (.if_icmp .ge 25, 3) := by decide +kernel
theorem dX8_calendar_61 : decode cX8_calendar 61 = .ok (.aload_n 0, 1) := by decide +kernel
theorem dX8_calendar_62 : decode cX8_calendar 62 = .ok (.getfield 7, 3) := by decide +kernel
theorem dX8_calendar_65 : decode cX8_calendar 65 = .ok (.sipush 244, 3) := by decide +kernel
theorem dX8_calendar_68 : decode cX8_calendar 68 = .ok (.iload_n 3, 1) := by decide +kernel
theorem dX8_calendar_69 : decode cX8_calendar 69 = .ok (.iadd, 1) := by decide +kernel
theorem dX8_calendar_70 : decode cX8_calendar 70 = .ok (.aload_n 0, 1) := by decide +kernel
theorem dX8_calendar_71 : decode cX8_calendar 71 = .ok (.getfield 31, 3) := by decide +kernel
theorem dX8_calendar_74 : decode cX8_calendar 74 = .ok (.iload_n 3, 1) := by decide +kernel
theorem dX8_calendar_75 : decode cX8_calendar 75 = .ok (.iaload, 1) := by decide +kernel
theorem dX8_calendar_76 : decode cX8_calendar 76 = .ok (.iastore, 1) := by decide +kernel
theorem dX8_calendar_77 : decode cX8_calendar 77 = .ok (.iinc 3 1, 3) := by decide +kernel
theorem dX8_calendar_80 : decode cX8_calendar 80 = .ok (.goto (-26), 3) := by decide +kernel
theorem dX8_calendar_83 : decode cX8_calendar 83 = .ok (.iload_n 2, 1) := by decide +kernel
theorem dX8_calendar_84 : decode cX8_calendar 84 = .ok (.ireturn, 1) := by decide +kernel
theorem dX8_fill_0 : decode cX8_fill 0 = .ok (.aload_n 0, 1) := by decide +kernel
theorem dX8_fill_1 : decode cX8_fill 1 = .ok (.iload_n 1, 1) := by decide +kernel
theorem dX8_fill_2 : decode cX8_fill 2 = .ok (.invokevirtual 139, 3) := by decide +kernel
theorem dX8_fill_5 : decode cX8_fill 5 = .ok (.ifCond .ne 10, 3) := by decide +kernel
theorem dX8_fill_8 : decode cX8_fill 8 = .ok (.aload_n 0, 1) := by decide +kernel
theorem dX8_fill_9 : decode cX8_fill 9 = .ok (.ldc 67, 2) := by decide +kernel
theorem dX8_fill_11 : decode cX8_fill 11 = .ok (.invokevirtual 56, 3) := by decide +kernel
theorem dX8_fill_14 : decode cX8_fill 14 = .ok (.ireturn, 1) := by decide +kernel
theorem dX8_fill_15 : decode cX8_fill 15 = .ok (.aload_n 0, 1) := by decide +kernel
theorem dX8_fill_16 : decode cX8_fill 16 = .ok (.invokevirtual 60, 3) := by decide +kernel
theorem dX8_fill_19 : decode cX8_fill 19 = .ok (.aload_n 0, 1) := by decide +kernel
theorem dX8_fill_20 : decode cX8_fill 20 = .ok (.iload_n 1, 1) := by decide +kernel
theorem dX8_fill_21 : decode cX8_fill 21 = .ok (.invokevirtual 142, 3) := by decide +kernel
theorem dX8_fill_24 : decode cX8_fill 24 = .ok (.ireturn, 1) := by decide +kernel
theorem dX8_near_0 : decode cX8_near 0 = .ok (.aload_n 0, 1) := by decide +kernel
theorem dX8_near_1 : decode cX8_near 1 = .ok (.iload_n 1, 1) := by decide +kernel
theorem dX8_near_2 : decode cX8_near 2 = .ok (.invokevirtual 91, 3) := by decide +kernel
theorem dX8_near_5 : decode cX8_near 5 = .ok (.ifCond .eq 22, 3) := by decide +kernel
theorem dX8_near_8 : decode cX8_near 8 = .ok (.aload_n 0, 1) := by decide +kernel
theorem dX8_near_9 : decode cX8_near 9 = .ok (.iload_n 2, 1) := by decide +kernel
theorem dX8_near_10 : decode cX8_near 10 = .ok (.invokevirtual 91, 3) := by decide +kernel
theorem dX8_near_13 : decode cX8_near 13 = .ok (.ifCond .eq 14, 3) := by decide +kernel
theorem dX8_near_16 : decode cX8_near 16 = .ok (.iload_n 3, 1) := by decide +kernel
theorem dX8_near_17 : decode cX8_near 17 = .ok (.iconst 0, 1) := by decide +kernel
theorem dX8_near_18 : decode cX8_near 18 = .ok (.sipush 250, 3) := by decide +kernel
theorem dX8_near_21 : decode cX8_near 21 = .ok (.invokestatic 48, 3) := by decide +kernel
theorem dX8_near_24 : decode cX8_near 24 = .ok (.ifCond .ne 10, 3) := by decide +kernel
theorem dX8_near_27 : decode cX8_near 27 = .ok (.aload_n 0, 1) := by decide +kernel
theorem dX8_near_28 : decode cX8_near 28 = .ok (.ldc 67, 2) := by decide +kernel
theorem dX8_near_30 : decode cX8_near 30 = .ok (.invokevirtual 56, 3) := by decide +kernel
theorem dX8_near_33 : decode cX8_near 33 = .ok (.ireturn, 1) := by decide +kernel
theorem dX8_near_34 : decode cX8_near 34 = .ok (.iload_n 1, 1) := by decide +kernel
theorem dX8_near_35 : decode cX8_near 35 = .ok (.iload_n 2, 1) := by decide +kernel
theorem dX8_near_36 : decode cX8_near 36 = .ok (.if_icmp .ne 10, 3) := by decide +kernel
theorem dX8_near_39 : decode cX8_near 39 = .ok (.aload_n 0, 1) := by decide +kernel
theorem dX8_near_40 : decode cX8_near 40 = .ok (.ldc 73, 2) := by decide +kernel
theorem dX8_near_42 : decode cX8_near 42 = .ok (.invokevirtual 56, 3) := by decide +kernel
theorem dX8_near_45 : decode cX8_near 45 = .ok (.ireturn, 1) := by decide +kernel
theorem dX8_near_46 : decode cX8_near 46 = .ok (.iconst 0, 1) := by decide +kernel
theorem dX8_near_47 : decode cX8_near 47 = .ok (.istore 4, 2) := by decide +kernel
theorem dX8_near_49 : decode cX8_near 49 = .ok (.iconst 0, 1) := by decide +kernel
theorem dX8_near_50 : decode cX8_near 50 = .ok (.istore 5, 2) := by decide +kernel
theorem dX8_near_52 : decode cX8_near 52 = .ok (.iload 5, 2) := by decide +kernel
theorem dX8_near_54 : decode cX8_near 54 = .ok (.bipush 30, 2) := by decide +kernel
theorem dX8_near_56 : decode cX8_near 56 = .ok (.if_icmp .ge 91, 3) := by decide +kernel
theorem dX8_near_59 : decode cX8_near 59 = .ok (.aload_n 0, 1) := by decide +kernel
theorem dX8_near_60 : decode cX8_near 60 = .ok (.getfield 7, 3) := by decide +kernel
theorem dX8_near_63 : decode cX8_near 63 = .ok (.sipush 244, 3) := by decide +kernel
theorem dX8_near_66 : decode cX8_near 66 = .ok (.bipush 30, 2) := by decide +kernel
theorem dX8_near_68 : decode cX8_near 68 = .ok (.iload_n 1, 1) := by decide +kernel
theorem dX8_near_69 : decode cX8_near 69 = .ok (.imul, 1) := by decide +kernel
theorem dX8_near_70 : decode cX8_near 70 = .ok (.iadd, 1) := by decide +kernel
theorem dX8_near_71 : decode cX8_near 71 = .ok (.iload 5, 2) := by decide +kernel
theorem dX8_near_73 : decode cX8_near 73 = .ok (.iadd, 1) := by decide +kernel
theorem dX8_near_74 : decode cX8_near 74 = .ok (.iaload, 1) := by decide +kernel
theorem dX8_near_75 : decode cX8_near 75 = .ok (.istore 6, 2) := by decide +kernel
theorem dX8_near_77 : decode cX8_near 77 = .ok (.aload_n 0, 1) := by decide +kernel
theorem dX8_near_78 : decode cX8_near 78 = .ok (.getfield 7, 3) := by decide +kernel
theorem dX8_near_81 : decode cX8_near 81 = .ok (.sipush 244, 3) := by decide +kernel
theorem dX8_near_84 : decode cX8_near 84 = .ok (.bipush 30, 2) := by decide +kernel
theorem dX8_near_86 : decode cX8_near 86 = .ok (.iload_n 2, 1) := by decide +kernel
theorem dX8_near_87 : decode cX8_near 87 = .ok (.imul, 1) := by decide +kernel
theorem dX8_near_88 : decode cX8_near 88 = .ok (.iadd, 1) := by decide +kernel
theorem dX8_near_89 : decode cX8_near 89 = .ok (.iload 5, 2) := by decide +kernel
theorem dX8_near_91 : decode cX8_near 91 = .ok (.iadd, 1) := by decide +kernel
theorem dX8_near_92 : decode cX8_near 92 = .ok (.iaload, 1) := by decide +kernel
theorem dX8_near_93 : decode cX8_near 93 = .ok (.istore 7, 2) := by decide +kernel
theorem dX8_near_95 : decode cX8_near 95 = .ok (.iload 6, 2) := by decide +kernel
theorem dX8_near_97 : decode cX8_near 97 = .ok (.ifCond .lt 44, 3) := by decide +kernel
theorem dX8_near_100 : decode cX8_near 100 = .ok (.iload 7, 2) := by decide +kernel
theorem dX8_near_102 : decode cX8_near 102 = .ok (.ifCond .lt 39, 3) := by decide +kernel
theorem dX8_near_105 : decode cX8_near 105 = .ok (.aload_n 0, 1) := by decide +kernel
theorem dX8_near_106 : decode cX8_near 106 = .ok (.iload 6, 2) := by decide +kernel
theorem dX8_near_108 : decode cX8_near 108 = .ok (.invokevirtual 109, 3) := by decide +kernel
theorem dX8_near_111 : decode cX8_near 111 = .ok (.aload_n 0, 1) := by decide +kernel
theorem dX8_near_112 : decode cX8_near 112 = .ok (.iload 7, 2) := by decide +kernel
theorem dX8_near_114 : decode cX8_near 114 = .ok (.invokevirtual 109, 3) := by decide +kernel
theorem dX8_near_117 : decode cX8_near 117 = .ok (.isub, 1) := by decide +kernel
theorem dX8_near_118 : decode cX8_near 118 = .ok (.istore 8, 2) := by decide +kernel
theorem dX8_near_120 : decode cX8_near 120 = .ok (.iload 4, 2) := by decide +kernel
theorem dX8_near_122 : decode cX8_near 122 = .ok (.iload 8, 2) := by decide +kernel
theorem dX8_near_124 : decode cX8_near 124 = .ok (.iload_n 3, 1) := by decide +kernel
theorem dX8_near_125 : decode cX8_near 125 = .ok (.ineg, 1) := by decide +kernel
theorem dX8_near_126 : decode cX8_near 126 = .ok (.iload_n 3, 1) := by decide +kernel
theorem dX8_near_127 : decode cX8_near 127 = .ok (.invokestatic 48, 3) := by decide +kernel
theorem dX8_near_130 : decode cX8_near 130 = .ok (.ifCond .eq 7, 3) := by decide +kernel
theorem dX8_near_133 : decode cX8_near 133 = .ok (.iconst 1, 1) := by decide +kernel
theorem dX8_near_134 : decode cX8_near 134 = .ok (.goto 4, 3) := by decide +kernel
theorem dX8_near_137 : decode cX8_near 137 = .ok (.iconst 0, 1) := by decide +kernel
theorem dX8_near_138 : decode cX8_near 138 = .ok (.iadd, 1) := by decide +kernel
theorem dX8_near_139 : decode cX8_near 139 = .ok (.istore 4, 2) := by decide +kernel
theorem dX8_near_141 : decode cX8_near 141 = .ok (.iinc 5 1, 3) := by decide +kernel
theorem dX8_near_144 : decode cX8_near 144 = .ok (.goto (-92), 3) := by decide +kernel
theorem dX8_near_147 : decode cX8_near 147 = .ok (.iload 4, 2) := by decide +kernel
theorem dX8_near_149 : decode cX8_near 149 = .ok (.ireturn, 1) := by decide +kernel
theorem dX8_hurt_0 : decode cX8_hurt 0 = .ok (.aload_n 0, 1) := by decide +kernel
theorem dX8_hurt_1 : decode cX8_hurt 1 = .ok (.iload_n 1, 1) := by decide +kernel
theorem dX8_hurt_2 : decode cX8_hurt 2 = .ok (.invokevirtual 91, 3) := by decide +kernel
theorem dX8_hurt_5 : decode cX8_hurt 5 = .ok (.ifCond .eq 14, 3) := by decide +kernel
theorem dX8_hurt_8 : decode cX8_hurt 8 = .ok (.iload_n 2, 1) := by decide +kernel
theorem dX8_hurt_9 : decode cX8_hurt 9 = .ok (.iconst 0, 1) := by decide +kernel
theorem dX8_hurt_10 : decode cX8_hurt 10 = .ok (.sipush 250, 3) := by decide +kernel
theorem dX8_hurt_13 : decode cX8_hurt 13 = .ok (.invokestatic 48, 3) := by decide +kernel
theorem dX8_hurt_16 : decode cX8_hurt 16 = .ok (.ifCond .ne 10, 3) := by decide +kernel
theorem dX8_hurt_19 : decode cX8_hurt 19 = .ok (.aload_n 0, 1) := by decide +kernel
theorem dX8_hurt_20 : decode cX8_hurt 20 = .ok (.ldc 67, 2) := by decide +kernel
theorem dX8_hurt_22 : decode cX8_hurt 22 = .ok (.invokevirtual 56, 3) := by decide +kernel
theorem dX8_hurt_25 : decode cX8_hurt 25 = .ok (.ireturn, 1) := by decide +kernel
theorem dX8_hurt_26 : decode cX8_hurt 26 = .ok (.aload_n 0, 1) := by decide +kernel
theorem dX8_hurt_27 : decode cX8_hurt 27 = .ok (.iload_n 1, 1) := by decide +kernel
theorem dX8_hurt_28 : decode cX8_hurt 28 = .ok (.iconst 0, 1) := by decide +kernel
theorem dX8_hurt_29 : decode cX8_hurt 29 = .ok (.invokevirtual 94, 3) := by decide +kernel
theorem dX8_hurt_32 : decode cX8_hurt 32 = .ok (.istore_n 3, 1) := by decide +kernel
theorem dX8_hurt_33 : decode cX8_hurt 33 = .ok (.iload_n 3, 1) := by decide +kernel
theorem dX8_hurt_34 : decode cX8_hurt 34 = .ok (.iconst 1, 1) := by decide +kernel
theorem dX8_hurt_35 : decode cX8_hurt 35 = .ok (.if_icmp .eq 8, 3) := by decide +kernel
theorem dX8_hurt_38 : decode cX8_hurt 38 = .ok (.iload_n 3, 1) := by decide +kernel
theorem dX8_hurt_39 : decode cX8_hurt 39 = .ok (.iconst 3, 1) := by decide +kernel
theorem dX8_hurt_40 : decode cX8_hurt 40 = .ok (.if_icmp .ne 8, 3) := by decide +kernel
theorem dX8_hurt_43 : decode cX8_hurt 43 = .ok (.bipush 20, 2) := by decide +kernel
theorem dX8_hurt_45 : decode cX8_hurt 45 = .ok (.goto 5, 3) := by decide +kernel
theorem dX8_hurt_48 : decode cX8_hurt 48 = .ok (.bipush 60, 2) := by decide +kernel
theorem dX8_hurt_50 : decode cX8_hurt 50 = .ok (.istore 4, 2) := by decide +kernel
theorem dX8_hurt_52 : decode cX8_hurt 52 = .ok (.iconst (-1), 1) := by decide +kernel
theorem dX8_hurt_53 : decode cX8_hurt 53 = .ok (.istore 5, 2) := by decide +kernel
theorem dX8_hurt_55 : decode cX8_hurt 55 = .ok (.iconst 0, 1) := by decide +kernel
theorem dX8_hurt_56 : decode cX8_hurt 56 = .ok (.istore 6, 2) := by decide +kernel
theorem dX8_hurt_58 : decode cX8_hurt 58 = .ok (.iload 6, 2) := by decide +kernel
theorem dX8_hurt_60 : decode cX8_hurt 60 = .ok (.aload_n 0, 1) := by decide +kernel
theorem dX8_hurt_61 : decode cX8_hurt 61 = .ok (.getfield 7, 3) := by decide +kernel
theorem dX8_hurt_64 : decode cX8_hurt 64 = .ok (.iconst 4, 1) := by decide +kernel
theorem dX8_hurt_65 : decode cX8_hurt 65 = .ok (.iaload, 1) := by decide +kernel
theorem dX8_hurt_66 : decode cX8_hurt 66 = .ok (.if_icmp .ge 78, 3) := by decide +kernel
theorem dX8_hurt_69 : decode cX8_hurt 69 = .ok (.aload_n 0, 1) := by decide +kernel
theorem dX8_hurt_70 : decode cX8_hurt 70 = .ok (.getfield 7, 3) := by decide +kernel
theorem dX8_hurt_73 : decode cX8_hurt 73 = .ok (.bipush 66, 2) := by decide +kernel
theorem dX8_hurt_75 : decode cX8_hurt 75 = .ok (.iload 6, 2) := by decide +kernel
theorem dX8_hurt_77 : decode cX8_hurt 77 = .ok (.iadd, 1) := by decide +kernel
theorem dX8_hurt_78 : decode cX8_hurt 78 = .ok (.iaload, 1) := by decide +kernel
theorem dX8_hurt_79 : decode cX8_hurt 79 = .ok (.istore 7, 2) := by decide +kernel
theorem dX8_hurt_81 : decode cX8_hurt 81 = .ok (.iload 7, 2) := by decide +kernel
theorem dX8_hurt_83 : decode cX8_hurt 83 = .ok (.iload_n 2, 1) := by decide +kernel
theorem dX8_hurt_84 : decode cX8_hurt 84 = .ok (.if_icmp .lt 13, 3) := by decide +kernel
theorem dX8_hurt_87 : decode cX8_hurt 87 = .ok (.bipush 12, 2) := by decide +kernel
theorem dX8_hurt_89 : decode cX8_hurt 89 = .ok (.iload 7, 2) := by decide +kernel
theorem dX8_hurt_91 : decode cX8_hurt 91 = .ok (.iload_n 2, 1) := by decide +kernel
theorem dX8_hurt_92 : decode cX8_hurt 92 = .ok (.isub, 1) := by decide +kernel
theorem dX8_hurt_93 : decode cX8_hurt 93 = .ok (.imul, 1) := by decide +kernel
theorem dX8_hurt_94 : decode cX8_hurt 94 = .ok (.goto 10, 3) := by decide +kernel
theorem dX8_hurt_97 : decode cX8_hurt 97 = .ok (.iload 4, 2) := by decide +kernel
theorem dX8_hurt_99 : decode cX8_hurt 99 = .ok (.iload_n 2, 1) := by decide +kernel
theorem dX8_hurt_100 : decode cX8_hurt 100 = .ok (.iload 7, 2) := by decide +kernel
theorem dX8_hurt_102 : decode cX8_hurt 102 = .ok (.isub, 1) := by decide +kernel
theorem dX8_hurt_103 : decode cX8_hurt 103 = .ok (.imul, 1) := by decide +kernel
theorem dX8_hurt_104 : decode cX8_hurt 104 = .ok (.istore 8, 2) := by decide +kernel
theorem dX8_hurt_106 : decode cX8_hurt 106 = .ok (.iload 7, 2) := by decide +kernel
theorem dX8_hurt_108 : decode cX8_hurt 108 = .ok (.aload_n 0, 1) := by decide +kernel
theorem dX8_hurt_109 : decode cX8_hurt 109 = .ok (.getfield 7, 3) := by decide +kernel
theorem dX8_hurt_112 : decode cX8_hurt 112 = .ok (.iconst 0, 1) := by decide +kernel
theorem dX8_hurt_113 : decode cX8_hurt 113 = .ok (.iaload, 1) := by decide +kernel
theorem dX8_hurt_114 : decode cX8_hurt 114 = .ok (.if_icmp .ge 20, 3) := by decide +kernel
theorem dX8_hurt_117 : decode cX8_hurt 117 = .ok (.iload 5, 2) := by decide +kernel
theorem dX8_hurt_119 : decode cX8_hurt 119 = .ok (.ifCond .lt 10, 3) := by decide +kernel
theorem dX8_hurt_122 : decode cX8_hurt 122 = .ok (.iload 8, 2) := by decide +kernel
theorem dX8_hurt_124 : decode cX8_hurt 124 = .ok (.iload 5, 2) := by decide +kernel
theorem dX8_hurt_126 : decode cX8_hurt 126 = .ok (.if_icmp .ge 8, 3) := by decide +kernel
theorem dX8_hurt_129 : decode cX8_hurt 129 = .ok (.iload 8, 2) := by decide +kernel
theorem dX8_hurt_131 : decode cX8_hurt 131 = .ok (.goto 5, 3) := by decide +kernel
theorem dX8_hurt_134 : decode cX8_hurt 134 = .ok (.iload 5, 2) := by decide +kernel
theorem dX8_hurt_136 : decode cX8_hurt 136 = .ok (.istore 5, 2) := by decide +kernel
theorem dX8_hurt_138 : decode cX8_hurt 138 = .ok (.iinc 6 1, 3) := by decide +kernel
theorem dX8_hurt_141 : decode cX8_hurt 141 = .ok (.goto (-83), 3) := by decide +kernel
theorem dX8_hurt_144 : decode cX8_hurt 144 = .ok (.iload 5, 2) := by decide +kernel
theorem dX8_hurt_146 : decode cX8_hurt 146 = .ok (.ifCond .ge 12, 3) := by decide +kernel
theorem dX8_hurt_149 : decode cX8_hurt 149 = .ok (.aload_n 0, 1) := by decide +kernel
theorem dX8_hurt_150 : decode cX8_hurt 150 = .ok (.ldc 55, 2) := by decide +kernel
theorem dX8_hurt_152 : decode cX8_hurt 152 = .ok (.invokevirtual 56, 3) := by decide +kernel
theorem dX8_hurt_155 : decode cX8_hurt 155 = .ok (.goto 5, 3) := by decide +kernel
theorem dX8_hurt_158 : decode cX8_hurt 158 = .ok (.iload 5, 2) := by decide +kernel
theorem dX8_hurt_160 : decode cX8_hurt 160 = .ok (.ireturn, 1) := by decide +kernel
theorem dX8_applicant_0 : decode cX8_applicant 0 = .ok (.iload_n 1, 1) := by decide +kernel
theorem dX8_applicant_1 : decode cX8_applicant 1 = .ok (.iconst 1, 1) := by decide +kernel
theorem dX8_applicant_2 : decode cX8_applicant 2 = .ok (.bipush 99, 2) := by decide +kernel
theorem dX8_applicant_4 : decode cX8_applicant 4 = .ok (.invokestatic 48, 3) := by decide +kernel
theorem dX8_applicant_7 : decode cX8_applicant 7 = .ok (.ifCond .ne 10, 3) := by decide +kernel
theorem dX8_applicant_10 : decode cX8_applicant 10 = .ok (.aload_n 0, 1) := by decide +kernel
theorem dX8_applicant_11 : decode cX8_applicant 11 = .ok (.ldc 67, 2) := by decide +kernel
theorem dX8_applicant_13 : decode cX8_applicant 13 = .ok (.invokevirtual 56, 3) := by decide +kernel
theorem dX8_applicant_16 : decode cX8_applicant 16 = .ok (.ireturn, 1) := by decide +kernel
theorem dX8_applicant_17 : decode cX8_applicant 17 = .ok (.aload_n 0, 1) := by decide +kernel
theorem dX8_applicant_18 : decode cX8_applicant 18 = .ok (.getfield 7, 3) := by decide +kernel
theorem dX8_applicant_21 : decode cX8_applicant 21 = .ok (.bipush 6, 2) := by decide +kernel
theorem dX8_applicant_23 : decode cX8_applicant 23 = .ok (.iaload, 1) := by decide +kernel
theorem dX8_applicant_24 : decode cX8_applicant 24 = .ok (.bipush 12, 2) := by decide +kernel
theorem dX8_applicant_26 : decode cX8_applicant 26 = .ok (.if_icmp .ne 10, 3) := by decide +kernel
theorem dX8_applicant_29 : decode cX8_applicant 29 = .ok (.aload_n 0, 1) := by decide +kernel
theorem dX8_applicant_30 : decode cX8_applicant 30 = .ok (.ldc 68, 2) := by decide +kernel
theorem dX8_applicant_32 : decode cX8_applicant 32 = .ok (.invokevirtual 56, 3) := by decide +kernel
theorem dX8_applicant_35 : decode cX8_applicant 35 = .ok (.ireturn, 1) := by decide +kernel
theorem dX8_applicant_36 : decode cX8_applicant 36 = .ok (.aload_n 0, 1) := by decide +kernel
theorem dX8_applicant_37 : decode cX8_applicant 37 = .ok (.bipush 6, 2) := by decide +kernel
theorem dX8_applicant_39 : decode cX8_applicant 39 = .ok (.aload_n 0, 1) := by decide +kernel
theorem dX8_applicant_40 : decode cX8_applicant 40 = .ok (.getfield 7, 3) := by decide +kernel
theorem dX8_applicant_43 : decode cX8_applicant 43 = .ok (.bipush 6, 2) := by decide +kernel
theorem dX8_applicant_45 : decode cX8_applicant 45 = .ok (.iaload, 1) := by decide +kernel
theorem dX8_applicant_46 : decode cX8_applicant 46 = .ok (.iconst 1, 1) := by decide +kernel
theorem dX8_applicant_47 : decode cX8_applicant 47 = .ok (.iadd, 1) := by decide +kernel
theorem dX8_applicant_48 : decode cX8_applicant 48 = .ok (.invokevirtual 63, 3) := by decide +kernel
theorem dX8_applicant_51 : decode cX8_applicant 51 = .ok (.istore_n 2, 1) := by decide +kernel
theorem dX8_applicant_52 : decode cX8_applicant 52 = .ok (.aload_n 0, 1) := by decide +kernel
theorem dX8_applicant_53 : decode cX8_applicant 53 = .ok (.getfield 7, 3) := by decide +kernel
theorem dX8_applicant_56 : decode cX8_applicant 56 = .ok (.sipush 544, 3) := by decide +kernel
theorem dX8_applicant_59 : decode cX8_applicant 59 = .ok (.iload_n 2, 1) := by decide +kernel
theorem dX8_applicant_60 : decode cX8_applicant 60 = .ok (.iadd, 1) := by decide +kernel
theorem dX8_applicant_61 : decode cX8_applicant 61 = .ok (.iload_n 1, 1) := by decide +kernel
theorem dX8_applicant_62 : decode cX8_applicant 62 = .ok (.iastore, 1) := by decide +kernel
theorem dX8_applicant_63 : decode cX8_applicant 63 = .ok (.iload_n 2, 1) := by decide +kernel
theorem dX8_applicant_64 : decode cX8_applicant 64 = .ok (.ireturn, 1) := by decide +kernel
theorem dX8_weigh_0 : decode cX8_weigh 0 = .ok (.aload_n 0, 1) := by decide +kernel
theorem dX8_weigh_1 : decode cX8_weigh 1 = .ok (.iload_n 1, 1) := by decide +kernel
theorem dX8_weigh_2 : decode cX8_weigh 2 = .ok (.invokevirtual 145, 3) := by decide +kernel
theorem dX8_weigh_5 : decode cX8_weigh 5 = .ok (.ifCond .eq 26, 3) := by decide +kernel
theorem dX8_weigh_8 : decode cX8_weigh 8 = .ok (.iload_n 2, 1) := by decide +kernel
theorem dX8_weigh_9 : decode cX8_weigh 9 = .ok (.iconst 1, 1) := by decide +kernel
theorem dX8_weigh_10 : decode cX8_weigh 10 = .ok (.bipush 99, 2) := by decide +kernel
theorem dX8_weigh_12 : decode cX8_weigh 12 = .ok (.invokestatic 48, 3) := by decide +kernel
theorem dX8_weigh_15 : decode cX8_weigh 15 = .ok (.ifCond .eq 16, 3) := by decide +kernel
theorem dX8_weigh_18 : decode cX8_weigh 18 = .ok (.aload_n 0, 1) := by decide +kernel
theorem dX8_weigh_19 : decode cX8_weigh 19 = .ok (.sipush 544, 3) := by decide +kernel
theorem dX8_weigh_22 : decode cX8_weigh 22 = .ok (.iload_n 1, 1) := by decide +kernel
theorem dX8_weigh_23 : decode cX8_weigh 23 = .ok (.iadd, 1) := by decide +kernel
theorem dX8_weigh_24 : decode cX8_weigh 24 = .ok (.iload_n 2, 1) := by decide +kernel
theorem dX8_weigh_25 : decode cX8_weigh 25 = .ok (.invokevirtual 63, 3) := by decide +kernel
theorem dX8_weigh_28 : decode cX8_weigh 28 = .ok (.goto 9, 3) := by decide +kernel
theorem dX8_weigh_31 : decode cX8_weigh 31 = .ok (.aload_n 0, 1) := by decide +kernel
theorem dX8_weigh_32 : decode cX8_weigh 32 = .ok (.ldc 67, 2) := by decide +kernel
theorem dX8_weigh_34 : decode cX8_weigh 34 = .ok (.invokevirtual 56, 3) := by decide +kernel
theorem dX8_weigh_37 : decode cX8_weigh 37 = .ok (.ireturn, 1) := by decide +kernel
theorem dX8_weights_0 : decode cX8_weights 0 = .ok (.iconst 0, 1) := by decide +kernel
theorem dX8_weights_1 : decode cX8_weights 1 = .ok (.istore_n 1, 1) := by decide +kernel
theorem dX8_weights_2 : decode cX8_weights 2 = .ok (.iconst 0, 1) := by decide +kernel
theorem dX8_weights_3 : decode cX8_weights 3 = .ok (.istore_n 2, 1) := by decide +kernel
theorem dX8_weights_4 : decode cX8_weights 4 = .ok (.iload_n 2, 1) := by decide +kernel
theorem dX8_weights_5 : decode cX8_weights 5 = .ok (.aload_n 0, 1) := by decide +kernel
theorem dX8_weights_6 : decode cX8_weights 6 = .ok (.getfield 7, 3) := by decide +kernel
theorem dX8_weights_9 : decode cX8_weights 9 = .ok (.bipush 6, 2) := by decide +kernel
theorem dX8_weights_11 : decode cX8_weights 11 = .ok (.iaload, 1) := by decide +kernel
theorem dX8_weights_12 : decode cX8_weights 12 = .ok (.if_icmp .ge 22, 3) := by decide +kernel
theorem dX8_weights_15 : decode cX8_weights 15 = .ok (.iload_n 1, 1) := by decide +kernel
theorem dX8_weights_16 : decode cX8_weights 16 = .ok (.aload_n 0, 1) := by decide +kernel
theorem dX8_weights_17 : decode cX8_weights 17 = .ok (.getfield 7, 3) := by decide +kernel
theorem dX8_weights_20 : decode cX8_weights 20 = .ok (.sipush 544, 3) := by decide +kernel
theorem dX8_weights_23 : decode cX8_weights 23 = .ok (.iload_n 2, 1) := by decide +kernel
theorem dX8_weights_24 : decode cX8_weights 24 = .ok (.iadd, 1) := by decide +kernel
theorem dX8_weights_25 : decode cX8_weights 25 = .ok (.iaload, 1) := by decide +kernel
theorem dX8_weights_26 : decode cX8_weights 26 = .ok (.iadd, 1) := by decide +kernel
theorem dX8_weights_27 : decode cX8_weights 27 = .ok (.istore_n 1, 1) := by decide +kernel
theorem dX8_weights_28 : decode cX8_weights 28 = .ok (.iinc 2 1, 3) := by decide +kernel
theorem dX8_weights_31 : decode cX8_weights 31 = .ok (.goto (-27), 3) := by decide +kernel
theorem dX8_weights_34 : decode cX8_weights 34 = .ok (.iload_n 1, 1) := by decide +kernel
theorem dX8_weights_35 : decode cX8_weights 35 = .ok (.ireturn, 1) := by decide +kernel
theorem dX8_chance_0 : decode cX8_chance 0 = .ok (.aload_n 0, 1) := by decide +kernel
theorem dX8_chance_1 : decode cX8_chance 1 = .ok (.iload_n 1, 1) := by decide +kernel
theorem dX8_chance_2 : decode cX8_chance 2 = .ok (.invokevirtual 145, 3) := by decide +kernel
theorem dX8_chance_5 : decode cX8_chance 5 = .ok (.ifCond .ne 10, 3) := by decide +kernel
theorem dX8_chance_8 : decode cX8_chance 8 = .ok (.aload_n 0, 1) := by decide +kernel
theorem dX8_chance_9 : decode cX8_chance 9 = .ok (.ldc 67, 2) := by decide +kernel
theorem dX8_chance_11 : decode cX8_chance 11 = .ok (.invokevirtual 56, 3) := by decide +kernel
theorem dX8_chance_14 : decode cX8_chance 14 = .ok (.ireturn, 1) := by decide +kernel
theorem dX8_chance_15 : decode cX8_chance 15 = .ok (.aload_n 0, 1) := by decide +kernel
theorem dX8_chance_16 : decode cX8_chance 16 = .ok (.getfield 7, 3) := by decide +kernel
theorem dX8_chance_19 : decode cX8_chance 19 = .ok (.sipush 544, 3) := by decide +kernel
theorem dX8_chance_22 : decode cX8_chance 22 = .ok (.iload_n 1, 1) := by decide +kernel
theorem dX8_chance_23 : decode cX8_chance 23 = .ok (.iadd, 1) := by decide +kernel
theorem dX8_chance_24 : decode cX8_chance 24 = .ok (.iaload, 1) := by decide +kernel
theorem dX8_chance_25 : decode cX8_chance 25 = .ok (.istore_n 3, 1) := by decide +kernel
theorem dX8_chance_26 : decode cX8_chance 26 = .ok (.aload_n 0, 1) := by decide +kernel
theorem dX8_chance_27 : decode cX8_chance 27 = .ok (.invokevirtual 148, 3) := by decide +kernel
theorem dX8_chance_30 : decode cX8_chance 30 = .ok (.istore 4, 2) := by decide +kernel
theorem dX8_chance_32 : decode cX8_chance 32 = .ok (.iload 4, 2) := by decide +kernel
theorem dX8_chance_34 : decode cX8_chance 34 = .ok (.ifCond .eq 19, 3) := by decide +kernel
theorem dX8_chance_37 : decode cX8_chance 37 = .ok (.iload_n 3, 1) := by decide +kernel
theorem dX8_chance_38 : decode cX8_chance 38 = .ok (.iload 4, 2) := by decide +kernel
theorem dX8_chance_40 : decode cX8_chance 40 = .ok (.irem, 1) := by decide +kernel
theorem dX8_chance_41 : decode cX8_chance 41 = .ok (.istore 5, 2) := by decide +kernel
theorem dX8_chance_43 : decode cX8_chance 43 = .ok (.iload 4, 2) := by decide +kernel
theorem dX8_chance_45 : decode cX8_chance 45 = .ok (.istore_n 3, 1) := by decide +kernel
theorem dX8_chance_46 : decode cX8_chance 46 = .ok (.iload 5, 2) := by decide +kernel
theorem dX8_chance_48 : decode cX8_chance 48 = .ok (.istore 4, 2) := by decide +kernel
theorem dX8_chance_50 : decode cX8_chance 50 = .ok (.goto (-18), 3) := by decide +kernel
theorem dX8_chance_53 : decode cX8_chance 53 = .ok (.iload_n 2, 1) := by decide +kernel
theorem dX8_chance_54 : decode cX8_chance 54 = .ok (.ifCond .eq 12, 3) := by decide +kernel
theorem dX8_chance_57 : decode cX8_chance 57 = .ok (.aload_n 0, 1) := by decide +kernel
theorem dX8_chance_58 : decode cX8_chance 58 = .ok (.invokevirtual 148, 3) := by decide +kernel
theorem dX8_chance_61 : decode cX8_chance 61 = .ok (.iload_n 3, 1) := by decide +kernel
theorem dX8_chance_62 : decode cX8_chance 62 = .ok (.idiv, 1) := by decide +kernel
theorem dX8_chance_63 : decode cX8_chance 63 = .ok (.goto 15, 3) := by decide +kernel
theorem dX8_chance_66 : decode cX8_chance 66 = .ok (.aload_n 0, 1) := by decide +kernel
theorem dX8_chance_67 : decode cX8_chance 67 = .ok (.getfield 7, 3) := by decide +kernel
theorem dX8_chance_70 : decode cX8_chance 70 = .ok (.sipush 544, 3) := by decide +kernel
theorem dX8_chance_73 : decode cX8_chance 73 = .ok (.iload_n 1, 1) := by decide +kernel
theorem dX8_chance_74 : decode cX8_chance 74 = .ok (.iadd, 1) := by decide +kernel
theorem dX8_chance_75 : decode cX8_chance 75 = .ok (.iaload, 1) := by decide +kernel
theorem dX8_chance_76 : decode cX8_chance 76 = .ok (.iload_n 3, 1) := by decide +kernel
theorem dX8_chance_77 : decode cX8_chance 77 = .ok (.idiv, 1) := by decide +kernel
theorem dX8_chance_78 : decode cX8_chance 78 = .ok (.ireturn, 1) := by decide +kernel
theorem dX8_draw_0 : decode cX8_draw 0 = .ok (.iload_n 1, 1) := by decide +kernel
theorem dX8_draw_1 : decode cX8_draw 1 = .ok (.istore_n 2, 1) := by decide +kernel
theorem dX8_draw_2 : decode cX8_draw 2 = .ok (.aload_n 0, 1) := by decide +kernel
theorem dX8_draw_3 : decode cX8_draw 3 = .ok (.invokevirtual 148, 3) := by decide +kernel
theorem dX8_draw_6 : decode cX8_draw 6 = .ok (.istore_n 3, 1) := by decide +kernel
theorem dX8_draw_7 : decode cX8_draw 7 = .ok (.iconst 0, 1) := by decide +kernel
theorem dX8_draw_8 : decode cX8_draw 8 = .ok (.istore 4, 2) := by decide +kernel
theorem dX8_draw_10 : decode cX8_draw 10 = .ok (.iload 4, 2) := by decide +kernel
theorem dX8_draw_12 : decode cX8_draw 12 = .ok (.bipush 12, 2) := by decide +kernel
theorem dX8_draw_14 : decode cX8_draw 14 = .ok (.if_icmp .ge 17, 3) := by decide +kernel
theorem dX8_draw_17 : decode cX8_draw 17 = .ok (.aload_n 0, 1) := by decide +kernel
theorem dX8_draw_18 : decode cX8_draw 18 = .ok (.getfield 37, 3) := by decide +kernel
theorem dX8_draw_21 : decode cX8_draw 21 = .ok (.iload 4, 2) := by decide +kernel
theorem dX8_draw_23 : decode cX8_draw 23 = .ok (.iconst 0, 1) := by decide +kernel
theorem dX8_draw_24 : decode cX8_draw 24 = .ok (.bastore, 1) := by decide +kernel
theorem dX8_draw_25 : decode cX8_draw 25 = .ok (.iinc 4 1, 3) := by decide +kernel
theorem dX8_draw_28 : decode cX8_draw 28 = .ok (.goto (-18), 3) := by decide +kernel
theorem dX8_draw_31 : decode cX8_draw 31 = .ok (.iconst 0, 1) := by decide +kernel
theorem dX8_draw_32 : decode cX8_draw 32 = .ok (.istore 4, 2) := by decide +kernel
theorem dX8_draw_34 : decode cX8_draw 34 = .ok (.iload 4, 2) := by decide +kernel
theorem dX8_draw_36 : decode cX8_draw 36 = .ok (.aload_n 0, 1) := by decide +kernel
theorem dX8_draw_37 : decode cX8_draw 37 = .ok (.getfield 7, 3) := by decide +kernel
theorem dX8_draw_40 : decode cX8_draw 40 = .ok (.bipush 6, 2) := by decide +kernel
theorem dX8_draw_42 : decode cX8_draw 42 = .ok (.iaload, 1) := by decide +kernel
theorem dX8_draw_43 : decode cX8_draw 43 = .ok (.if_icmp .ge 122, 3) := by decide +kernel
theorem dX8_draw_46 : decode cX8_draw 46 = .ok (.ldc 152, 2) := by decide +kernel
theorem dX8_draw_48 : decode cX8_draw 48 = .ok (.iload_n 2, 1) := by decide +kernel
theorem dX8_draw_49 : decode cX8_draw 49 = .ok (.imul, 1) := by decide +kernel
theorem dX8_draw_50 : decode cX8_draw 50 = .ok (.sipush 12345, 3) := by decide +kernel
theorem dX8_draw_53 : decode cX8_draw 53 = .ok (.iadd, 1) := by decide +kernel
theorem dX8_draw_54 : decode cX8_draw 54 = .ok (.istore_n 2, 1) := by decide +kernel
theorem dX8_draw_55 : decode cX8_draw 55 = .ok (.iload_n 2, 1) := by decide +kernel
theorem dX8_draw_56 : decode cX8_draw 56 = .ok (.bipush 16, 2) := by decide +kernel
theorem dX8_draw_58 : decode cX8_draw 58 = .ok (.iushr, 1) := by decide +kernel
theorem dX8_draw_59 : decode cX8_draw 59 = .ok (.iload_n 3, 1) := by decide +kernel
theorem dX8_draw_60 : decode cX8_draw 60 = .ok (.irem, 1) := by decide +kernel
theorem dX8_draw_61 : decode cX8_draw 61 = .ok (.istore 5, 2) := by decide +kernel
theorem dX8_draw_63 : decode cX8_draw 63 = .ok (.iconst 0, 1) := by decide +kernel
theorem dX8_draw_64 : decode cX8_draw 64 = .ok (.istore 6, 2) := by decide +kernel
theorem dX8_draw_66 : decode cX8_draw 66 = .ok (.aload_n 0, 1) := by decide +kernel
theorem dX8_draw_67 : decode cX8_draw 67 = .ok (.getfield 37, 3) := by decide +kernel
theorem dX8_draw_70 : decode cX8_draw 70 = .ok (.iload 6, 2) := by decide +kernel
theorem dX8_draw_72 : decode cX8_draw 72 = .ok (.baload, 1) := by decide +kernel
theorem dX8_draw_73 : decode cX8_draw 73 = .ok (.ifCond .ne 19, 3) := by decide +kernel
theorem dX8_draw_76 : decode cX8_draw 76 = .ok (.iload 5, 2) := by decide +kernel
theorem dX8_draw_78 : decode cX8_draw 78 = .ok (.aload_n 0, 1) := by decide +kernel
theorem dX8_draw_79 : decode cX8_draw 79 = .ok (.getfield 7, 3) := by decide +kernel
theorem dX8_draw_82 : decode cX8_draw 82 = .ok (.sipush 544, 3) := by decide +kernel
theorem dX8_draw_85 : decode cX8_draw 85 = .ok (.iload 6, 2) := by decide +kernel
theorem dX8_draw_87 : decode cX8_draw 87 = .ok (.iadd, 1) := by decide +kernel
theorem dX8_draw_88 : decode cX8_draw 88 = .ok (.iaload, 1) := by decide +kernel
theorem dX8_draw_89 : decode cX8_draw 89 = .ok (.if_icmp .lt 39, 3) := by decide +kernel
theorem dX8_draw_92 : decode cX8_draw 92 = .ok (.iload 5, 2) := by decide +kernel
theorem dX8_draw_94 : decode cX8_draw 94 = .ok (.aload_n 0, 1) := by decide +kernel
theorem dX8_draw_95 : decode cX8_draw 95 = .ok (.getfield 37, 3) := by decide +kernel
theorem dX8_draw_98 : decode cX8_draw 98 = .ok (.iload 6, 2) := by decide +kernel
theorem dX8_draw_100 : decode cX8_draw 100 = .ok (.baload, 1) := by decide +kernel
theorem dX8_draw_101 : decode cX8_draw 101 = .ok (.ifCond .eq 7, 3) := by decide +kernel
theorem dX8_draw_104 : decode cX8_draw 104 = .ok (.iconst 0, 1) := by decide +kernel
theorem dX8_draw_105 : decode cX8_draw 105 = .ok (.goto 14, 3) := by decide +kernel
theorem dX8_draw_108 : decode cX8_draw 108 = .ok (.aload_n 0, 1) := by decide +kernel
theorem dX8_draw_109 : decode cX8_draw 109 = .ok (.getfield 7, 3) := by decide +kernel
theorem dX8_draw_112 : decode cX8_draw 112 = .ok (.sipush 544, 3) := by decide +kernel
theorem dX8_draw_115 : decode cX8_draw 115 = .ok (.iload 6, 2) := by decide +kernel
theorem dX8_draw_117 : decode cX8_draw 117 = .ok (.iadd, 1) := by decide +kernel
theorem dX8_draw_118 : decode cX8_draw 118 = .ok (.iaload, 1) := by decide +kernel
theorem dX8_draw_119 : decode cX8_draw 119 = .ok (.isub, 1) := by decide +kernel
theorem dX8_draw_120 : decode cX8_draw 120 = .ok (.istore 5, 2) := by decide +kernel
theorem dX8_draw_122 : decode cX8_draw 122 = .ok (.iinc 6 1, 3) := by decide +kernel
theorem dX8_draw_125 : decode cX8_draw 125 = .ok (.goto (-59), 3) := by decide +kernel
theorem dX8_draw_128 : decode cX8_draw 128 = .ok (.aload_n 0, 1) := by decide +kernel
theorem dX8_draw_129 : decode cX8_draw 129 = .ok (.getfield 34, 3) := by decide +kernel
theorem dX8_draw_132 : decode cX8_draw 132 = .ok (.iload 4, 2) := by decide +kernel
theorem dX8_draw_134 : decode cX8_draw 134 = .ok (.iload 6, 2) := by decide +kernel
theorem dX8_draw_136 : decode cX8_draw 136 = .ok (.iastore, 1) := by decide +kernel
theorem dX8_draw_137 : decode cX8_draw 137 = .ok (.aload_n 0, 1) := by decide +kernel
theorem dX8_draw_138 : decode cX8_draw 138 = .ok (.getfield 37, 3) := by decide +kernel
theorem dX8_draw_141 : decode cX8_draw 141 = .ok (.iload 6, 2) := by decide +kernel
theorem dX8_draw_143 : decode cX8_draw 143 = .ok (.iconst 1, 1) := by decide +kernel
theorem dX8_draw_144 : decode cX8_draw 144 = .ok (.bastore, 1) := by decide +kernel
theorem dX8_draw_145 : decode cX8_draw 145 = .ok (.iload_n 3, 1) := by decide +kernel
theorem dX8_draw_146 : decode cX8_draw 146 = .ok (.aload_n 0, 1) := by decide +kernel
theorem dX8_draw_147 : decode cX8_draw 147 = .ok (.getfield 7, 3) := by decide +kernel
theorem dX8_draw_150 : decode cX8_draw 150 = .ok (.sipush 544, 3) := by decide +kernel
theorem dX8_draw_153 : decode cX8_draw 153 = .ok (.iload 6, 2) := by decide +kernel
theorem dX8_draw_155 : decode cX8_draw 155 = .ok (.iadd, 1) := by decide +kernel
theorem dX8_draw_156 : decode cX8_draw 156 = .ok (.iaload, 1) := by decide +kernel
theorem dX8_draw_157 : decode cX8_draw 157 = .ok (.isub, 1) := by decide +kernel
theorem dX8_draw_158 : decode cX8_draw 158 = .ok (.istore_n 3, 1) := by decide +kernel
theorem dX8_draw_159 : decode cX8_draw 159 = .ok (.iinc 4 1, 3) := by decide +kernel
theorem dX8_draw_162 : decode cX8_draw 162 = .ok (.goto (-128), 3) := by decide +kernel
theorem dX8_draw_165 : decode cX8_draw 165 = .ok (.return_, 1) := by decide +kernel
theorem dX8_drawn_0 : decode cX8_drawn 0 = .ok (.iload_n 2, 1) := by decide +kernel
theorem dX8_drawn_1 : decode cX8_drawn 1 = .ok (.ifCond .lt 14, 3) := by decide +kernel
theorem dX8_drawn_4 : decode cX8_drawn 4 = .ok (.iload_n 2, 1) := by decide +kernel
theorem dX8_drawn_5 : decode cX8_drawn 5 = .ok (.aload_n 0, 1) := by decide +kernel
theorem dX8_drawn_6 : decode cX8_drawn 6 = .ok (.getfield 7, 3) := by decide +kernel
theorem dX8_drawn_9 : decode cX8_drawn 9 = .ok (.bipush 6, 2) := by decide +kernel
theorem dX8_drawn_11 : decode cX8_drawn 11 = .ok (.iaload, 1) := by decide +kernel
theorem dX8_drawn_12 : decode cX8_drawn 12 = .ok (.if_icmp .lt 10, 3) := by decide +kernel
theorem dX8_drawn_15 : decode cX8_drawn 15 = .ok (.aload_n 0, 1) := by decide +kernel
theorem dX8_drawn_16 : decode cX8_drawn 16 = .ok (.ldc 67, 2) := by decide +kernel
theorem dX8_drawn_18 : decode cX8_drawn 18 = .ok (.invokevirtual 56, 3) := by decide +kernel
theorem dX8_drawn_21 : decode cX8_drawn 21 = .ok (.ireturn, 1) := by decide +kernel
theorem dX8_drawn_22 : decode cX8_drawn 22 = .ok (.aload_n 0, 1) := by decide +kernel
theorem dX8_drawn_23 : decode cX8_drawn 23 = .ok (.iload_n 1, 1) := by decide +kernel
theorem dX8_drawn_24 : decode cX8_drawn 24 = .ok (.invokevirtual 153, 3) := by decide +kernel
theorem dX8_drawn_27 : decode cX8_drawn 27 = .ok (.aload_n 0, 1) := by decide +kernel
theorem dX8_drawn_28 : decode cX8_drawn 28 = .ok (.getfield 34, 3) := by decide +kernel
theorem dX8_drawn_31 : decode cX8_drawn 31 = .ok (.iload_n 2, 1) := by decide +kernel
theorem dX8_drawn_32 : decode cX8_drawn 32 = .ok (.iaload, 1) := by decide +kernel
theorem dX8_drawn_33 : decode cX8_drawn 33 = .ok (.ireturn, 1) := by decide +kernel
theorem dX8_turn_0 : decode cX8_turn 0 = .ok (.aload_n 0, 1) := by decide +kernel
theorem dX8_turn_1 : decode cX8_turn 1 = .ok (.iload_n 2, 1) := by decide +kernel
theorem dX8_turn_2 : decode cX8_turn 2 = .ok (.invokevirtual 145, 3) := by decide +kernel
theorem dX8_turn_5 : decode cX8_turn 5 = .ok (.ifCond .ne 10, 3) := by decide +kernel
theorem dX8_turn_8 : decode cX8_turn 8 = .ok (.aload_n 0, 1) := by decide +kernel
theorem dX8_turn_9 : decode cX8_turn 9 = .ok (.ldc 67, 2) := by decide +kernel
theorem dX8_turn_11 : decode cX8_turn 11 = .ok (.invokevirtual 56, 3) := by decide +kernel
theorem dX8_turn_14 : decode cX8_turn 14 = .ok (.ireturn, 1) := by decide +kernel
theorem dX8_turn_15 : decode cX8_turn 15 = .ok (.aload_n 0, 1) := by decide +kernel
theorem dX8_turn_16 : decode cX8_turn 16 = .ok (.iload_n 1, 1) := by decide +kernel
theorem dX8_turn_17 : decode cX8_turn 17 = .ok (.invokevirtual 153, 3) := by decide +kernel
theorem dX8_turn_20 : decode cX8_turn 20 = .ok (.iconst 0, 1) := by decide +kernel
theorem dX8_turn_21 : decode cX8_turn 21 = .ok (.istore_n 3, 1) := by decide +kernel
theorem dX8_turn_22 : decode cX8_turn 22 = .ok (.aload_n 0, 1) := by decide +kernel
theorem dX8_turn_23 : decode cX8_turn 23 = .ok (.getfield 34, 3) := by decide +kernel
theorem dX8_turn_26 : decode cX8_turn 26 = .ok (.iload_n 3, 1) := by decide +kernel
theorem dX8_turn_27 : decode cX8_turn 27 = .ok (.iaload, 1) := by decide +kernel
theorem dX8_turn_28 : decode cX8_turn 28 = .ok (.iload_n 2, 1) := by decide +kernel
theorem dX8_turn_29 : decode cX8_turn 29 = .ok (.if_icmp .eq 9, 3) := by decide +kernel
theorem dX8_turn_32 : decode cX8_turn 32 = .ok (.iinc 3 1, 3) := by decide +kernel
theorem dX8_turn_35 : decode cX8_turn 35 = .ok (.goto (-13), 3) := by decide +kernel
theorem dX8_turn_38 : decode cX8_turn 38 = .ok (.iload_n 3, 1) := by decide +kernel
theorem dX8_turn_39 : decode cX8_turn 39 = .ok (.ireturn, 1) := by decide +kernel
theorem dX8_isSheet_0 : decode cX8_isSheet 0 = .ok (.iload_n 0, 1) := by decide +kernel
theorem dX8_isSheet_1 : decode cX8_isSheet 1 = .ok (.iconst 0, 1) := by decide +kernel
theorem dX8_isSheet_2 : decode cX8_isSheet 2 = .ok (.iconst 3, 1) := by decide +kernel
theorem dX8_isSheet_3 : decode cX8_isSheet 3 = .ok (.invokestatic 48, 3) := by decide +kernel
theorem dX8_isSheet_6 : decode cX8_isSheet 6 = .ok (.ireturn, 1) := by decide +kernel
theorem dX8_sheet_0 : decode cX8_sheet 0 = .ok (.iload_n 1, 1) := by decide +kernel
theorem dX8_sheet_1 : decode cX8_sheet 1 = .ok (.invokestatic 156, 3) := by decide +kernel
theorem dX8_sheet_4 : decode cX8_sheet 4 = .ok (.ifCond .eq 25, 3) := by decide +kernel
theorem dX8_sheet_7 : decode cX8_sheet 7 = .ok (.iload_n 2, 1) := by decide +kernel
theorem dX8_sheet_8 : decode cX8_sheet 8 = .ok (.ifCond .eq 28, 3) := by decide +kernel
theorem dX8_sheet_11 : decode cX8_sheet 11 = .ok (.iload_n 2, 1) := by decide +kernel
theorem dX8_sheet_12 : decode cX8_sheet 12 = .ok (.bipush 8, 2) := by decide +kernel
theorem dX8_sheet_14 : decode cX8_sheet 14 = .ok (.if_icmp .eq 22, 3) := by decide +kernel
theorem dX8_sheet_17 : decode cX8_sheet 17 = .ok (.iload_n 2, 1) := by decide +kernel
theorem dX8_sheet_18 : decode cX8_sheet 18 = .ok (.bipush 16, 2) := by decide +kernel
theorem dX8_sheet_20 : decode cX8_sheet 20 = .ok (.if_icmp .eq 16, 3) := by decide +kernel
theorem dX8_sheet_23 : decode cX8_sheet 23 = .ok (.iload_n 2, 1) := by decide +kernel
theorem dX8_sheet_24 : decode cX8_sheet 24 = .ok (.bipush 32, 2) := by decide +kernel
theorem dX8_sheet_26 : decode cX8_sheet 26 = .ok (.if_icmp .eq 10, 3) := by decide +kernel
theorem dX8_sheet_29 : decode cX8_sheet 29 = .ok (.aload_n 0, 1) := by decide +kernel
theorem dX8_sheet_30 : decode cX8_sheet 30 = .ok (.ldc 67, 2) := by decide +kernel
theorem dX8_sheet_32 : decode cX8_sheet 32 = .ok (.invokevirtual 56, 3) := by decide +kernel
theorem dX8_sheet_35 : decode cX8_sheet 35 = .ok (.ireturn, 1) := by decide +kernel
theorem dX8_sheet_36 : decode cX8_sheet 36 = .ok (.iload_n 3, 1) := by decide +kernel
theorem dX8_sheet_37 : decode cX8_sheet 37 = .ok (.ifCond .ge 10, 3) := by decide +kernel
theorem dX8_sheet_40 : decode cX8_sheet 40 = .ok (.aload_n 0, 1) := by decide +kernel
theorem dX8_sheet_41 : decode cX8_sheet 41 = .ok (.ldc 73, 2) := by decide +kernel
theorem dX8_sheet_43 : decode cX8_sheet 43 = .ok (.invokevirtual 56, 3) := by decide +kernel
theorem dX8_sheet_46 : decode cX8_sheet 46 = .ok (.ireturn, 1) := by decide +kernel
theorem dX8_sheet_47 : decode cX8_sheet 47 = .ok (.iload_n 3, 1) := by decide +kernel
theorem dX8_sheet_48 : decode cX8_sheet 48 = .ok (.bipush 40, 2) := by decide +kernel
theorem dX8_sheet_50 : decode cX8_sheet 50 = .ok (.if_icmp .le 10, 3) := by decide +kernel
theorem dX8_sheet_53 : decode cX8_sheet 53 = .ok (.aload_n 0, 1) := by decide +kernel
theorem dX8_sheet_54 : decode cX8_sheet 54 = .ok (.ldc 67, 2) := by decide +kernel
theorem dX8_sheet_56 : decode cX8_sheet 56 = .ok (.invokevirtual 56, 3) := by decide +kernel
theorem dX8_sheet_59 : decode cX8_sheet 59 = .ok (.ireturn, 1) := by decide +kernel
theorem dX8_sheet_60 : decode cX8_sheet 60 = .ok (.aload_n 0, 1) := by decide +kernel
theorem dX8_sheet_61 : decode cX8_sheet 61 = .ok (.getfield 16, 3) := by decide +kernel
theorem dX8_sheet_64 : decode cX8_sheet 64 = .ok (.iload_n 1, 1) := by decide +kernel
theorem dX8_sheet_65 : decode cX8_sheet 65 = .ok (.iload_n 2, 1) := by decide +kernel
theorem dX8_sheet_66 : decode cX8_sheet 66 = .ok (.iastore, 1) := by decide +kernel
theorem dX8_sheet_67 : decode cX8_sheet 67 = .ok (.aload_n 0, 1) := by decide +kernel
theorem dX8_sheet_68 : decode cX8_sheet 68 = .ok (.getfield 19, 3) := by decide +kernel
theorem dX8_sheet_71 : decode cX8_sheet 71 = .ok (.iload_n 1, 1) := by decide +kernel
theorem dX8_sheet_72 : decode cX8_sheet 72 = .ok (.iload_n 2, 1) := by decide +kernel
theorem dX8_sheet_73 : decode cX8_sheet 73 = .ok (.ifCond .ne 7, 3) := by decide +kernel
theorem dX8_sheet_76 : decode cX8_sheet 76 = .ok (.iconst 0, 1) := by decide +kernel
theorem dX8_sheet_77 : decode cX8_sheet 77 = .ok (.goto 4, 3) := by decide +kernel
theorem dX8_sheet_80 : decode cX8_sheet 80 = .ok (.iload_n 3, 1) := by decide +kernel
theorem dX8_sheet_81 : decode cX8_sheet 81 = .ok (.iastore, 1) := by decide +kernel
theorem dX8_sheet_82 : decode cX8_sheet 82 = .ok (.iconst 0, 1) := by decide +kernel
theorem dX8_sheet_83 : decode cX8_sheet 83 = .ok (.istore 4, 2) := by decide +kernel
theorem dX8_sheet_85 : decode cX8_sheet 85 = .ok (.iload 4, 2) := by decide +kernel
theorem dX8_sheet_87 : decode cX8_sheet 87 = .ok (.bipush 40, 2) := by decide +kernel
theorem dX8_sheet_89 : decode cX8_sheet 89 = .ok (.if_icmp .ge 22, 3) := by decide +kernel
theorem dX8_sheet_92 : decode cX8_sheet 92 = .ok (.aload_n 0, 1) := by decide +kernel
theorem dX8_sheet_93 : decode cX8_sheet 93 = .ok (.getfield 22, 3) := by decide +kernel
theorem dX8_sheet_96 : decode cX8_sheet 96 = .ok (.bipush 40, 2) := by decide +kernel
theorem dX8_sheet_98 : decode cX8_sheet 98 = .ok (.iload_n 1, 1) := by decide +kernel
theorem dX8_sheet_99 : decode cX8_sheet 99 = .ok (.imul, 1) := by decide +kernel
theorem dX8_sheet_100 : decode cX8_sheet 100 = .ok (.iload 4, 2) := by decide +kernel
theorem dX8_sheet_102 : decode cX8_sheet 102 = .ok (.iadd, 1) := by decide +kernel
theorem dX8_sheet_103 : decode cX8_sheet 103 = .ok (.iconst 0, 1) := by decide +kernel
theorem dX8_sheet_104 : decode cX8_sheet 104 = .ok (.iastore, 1) := by decide +kernel
theorem dX8_sheet_105 : decode cX8_sheet 105 = .ok (.iinc 4 1, 3) := by decide +kernel
theorem dX8_sheet_108 : decode cX8_sheet 108 = .ok (.goto (-23), 3) := by decide +kernel
theorem dX8_sheet_111 : decode cX8_sheet 111 = .ok (.aload_n 0, 1) := by decide +kernel
theorem dX8_sheet_112 : decode cX8_sheet 112 = .ok (.getfield 19, 3) := by decide +kernel
theorem dX8_sheet_115 : decode cX8_sheet 115 = .ok (.iload_n 1, 1) := by decide +kernel
theorem dX8_sheet_116 : decode cX8_sheet 116 = .ok (.iaload, 1) := by decide +kernel
theorem dX8_sheet_117 : decode cX8_sheet 117 = .ok (.ireturn, 1) := by decide +kernel
theorem dX8_put_0 : decode cX8_put 0 = .ok (.iload_n 1, 1) := by decide +kernel
theorem dX8_put_1 : decode cX8_put 1 = .ok (.invokestatic 156, 3) := by decide +kernel
theorem dX8_put_4 : decode cX8_put 4 = .ok (.ifCond .ne 10, 3) := by decide +kernel
theorem dX8_put_7 : decode cX8_put 7 = .ok (.aload_n 0, 1) := by decide +kernel
theorem dX8_put_8 : decode cX8_put 8 = .ok (.ldc 67, 2) := by decide +kernel
theorem dX8_put_10 : decode cX8_put 10 = .ok (.invokevirtual 56, 3) := by decide +kernel
theorem dX8_put_13 : decode cX8_put 13 = .ok (.ireturn, 1) := by decide +kernel
theorem dX8_put_14 : decode cX8_put 14 = .ok (.aload_n 0, 1) := by decide +kernel
theorem dX8_put_15 : decode cX8_put 15 = .ok (.getfield 16, 3) := by decide +kernel
theorem dX8_put_18 : decode cX8_put 18 = .ok (.iload_n 1, 1) := by decide +kernel
theorem dX8_put_19 : decode cX8_put 19 = .ok (.iaload, 1) := by decide +kernel
theorem dX8_put_20 : decode cX8_put 20 = .ok (.ifCond .ne 10, 3) := by decide +kernel
theorem dX8_put_23 : decode cX8_put 23 = .ok (.aload_n 0, 1) := by decide +kernel
theorem dX8_put_24 : decode cX8_put 24 = .ok (.ldc 159, 2) := by decide +kernel
theorem dX8_put_26 : decode cX8_put 26 = .ok (.invokevirtual 56, 3) := by decide +kernel
theorem dX8_put_29 : decode cX8_put 29 = .ok (.ireturn, 1) := by decide +kernel
theorem dX8_put_30 : decode cX8_put 30 = .ok (.iload_n 2, 1) := by decide +kernel
theorem dX8_put_31 : decode cX8_put 31 = .ok (.ifCond .lt 13, 3) := by decide +kernel
theorem dX8_put_34 : decode cX8_put 34 = .ok (.iload_n 2, 1) := by decide +kernel
theorem dX8_put_35 : decode cX8_put 35 = .ok (.aload_n 0, 1) := by decide +kernel
theorem dX8_put_36 : decode cX8_put 36 = .ok (.getfield 19, 3) := by decide +kernel
theorem dX8_put_39 : decode cX8_put 39 = .ok (.iload_n 1, 1) := by decide +kernel
theorem dX8_put_40 : decode cX8_put 40 = .ok (.iaload, 1) := by decide +kernel
theorem dX8_put_41 : decode cX8_put 41 = .ok (.if_icmp .lt 10, 3) := by decide +kernel
theorem dX8_put_44 : decode cX8_put 44 = .ok (.aload_n 0, 1) := by decide +kernel
theorem dX8_put_45 : decode cX8_put 45 = .ok (.ldc 67, 2) := by decide +kernel
theorem dX8_put_47 : decode cX8_put 47 = .ok (.invokevirtual 56, 3) := by decide +kernel
theorem dX8_put_50 : decode cX8_put 50 = .ok (.ireturn, 1) := by decide +kernel
theorem dX8_put_51 : decode cX8_put 51 = .ok (.aload_n 0, 1) := by decide +kernel
theorem dX8_put_52 : decode cX8_put 52 = .ok (.getfield 22, 3) := by decide +kernel
theorem dX8_put_55 : decode cX8_put 55 = .ok (.bipush 40, 2) := by decide +kernel
theorem dX8_put_57 : decode cX8_put 57 = .ok (.iload_n 1, 1) := by decide +kernel
theorem dX8_put_58 : decode cX8_put 58 = .ok (.imul, 1) := by decide +kernel
theorem dX8_put_59 : decode cX8_put 59 = .ok (.iload_n 2, 1) := by decide +kernel
theorem dX8_put_60 : decode cX8_put 60 = .ok (.iadd, 1) := by decide +kernel
theorem dX8_put_61 : decode cX8_put 61 = .ok (.aload_n 0, 1) := by decide +kernel
theorem dX8_put_62 : decode cX8_put 62 = .ok (.getfield 16, 3) := by decide +kernel
theorem dX8_put_65 : decode cX8_put 65 = .ok (.iload_n 1, 1) := by decide +kernel
theorem dX8_put_66 : decode cX8_put 66 = .ok (.iaload, 1) := by decide +kernel
theorem dX8_put_67 : decode cX8_put 67 = .ok (.bipush 8, 2) := by decide +kernel
theorem dX8_put_69 : decode cX8_put 69 = .ok (.if_icmp .ne 8, 3) := by decide +kernel
theorem dX8_put_72 : decode cX8_put 72 = .ok (.iload_n 3, 1) := by decide +kernel
theorem dX8_put_73 : decode cX8_put 73 = .ok (.i2b, 1) := by decide +kernel
theorem dX8_put_74 : decode cX8_put 74 = .ok (.goto 20, 3) := by decide +kernel
theorem dX8_put_77 : decode cX8_put 77 = .ok (.aload_n 0, 1) := by decide +kernel
theorem dX8_put_78 : decode cX8_put 78 = .ok (.getfield 16, 3) := by decide +kernel
theorem dX8_put_81 : decode cX8_put 81 = .ok (.iload_n 1, 1) := by decide +kernel
theorem dX8_put_82 : decode cX8_put 82 = .ok (.iaload, 1) := by decide +kernel
theorem dX8_put_83 : decode cX8_put 83 = .ok (.bipush 16, 2) := by decide +kernel
theorem dX8_put_85 : decode cX8_put 85 = .ok (.if_icmp .ne 8, 3) := by decide +kernel
theorem dX8_put_88 : decode cX8_put 88 = .ok (.iload_n 3, 1) := by decide +kernel
theorem dX8_put_89 : decode cX8_put 89 = .ok (.i2s, 1) := by decide +kernel
theorem dX8_put_90 : decode cX8_put 90 = .ok (.goto 4, 3) := by decide +kernel
theorem dX8_put_93 : decode cX8_put 93 = .ok (.iload_n 3, 1) := by decide +kernel
theorem dX8_put_94 : decode cX8_put 94 = .ok (.iastore, 1) := by decide +kernel
theorem dX8_put_95 : decode cX8_put 95 = .ok (.iconst 0, 1) := by decide +kernel
theorem dX8_put_96 : decode cX8_put 96 = .ok (.ireturn, 1) := by decide +kernel
theorem dX8_hasPart_0 : decode cX8_hasPart 0 = .ok (.iload_n 2, 1) := by decide +kernel
theorem dX8_hasPart_1 : decode cX8_hasPart 1 = .ok (.ifCond .lt 33, 3) := by decide +kernel
theorem dX8_hasPart_4 : decode cX8_hasPart 4 = .ok (.iload_n 3, 1) := by decide +kernel
theorem dX8_hasPart_5 : decode cX8_hasPart 5 = .ok (.ifCond .lt 29, 3) := by decide +kernel
theorem dX8_hasPart_8 : decode cX8_hasPart 8 = .ok (.iload_n 3, 1) := by decide +kernel
theorem dX8_hasPart_9 : decode cX8_hasPart 9 = .ok (.aload_n 0, 1) := by decide +kernel
theorem dX8_hasPart_10 : decode cX8_hasPart 10 = .ok (.getfield 19, 3) := by decide +kernel
theorem dX8_hasPart_13 : decode cX8_hasPart 13 = .ok (.iload_n 1, 1) := by decide +kernel
theorem dX8_hasPart_14 : decode cX8_hasPart 14 = .ok (.iaload, 1) := by decide +kernel
theorem dX8_hasPart_15 : decode cX8_hasPart 15 = .ok (.if_icmp .gt 19, 3) := by decide +kernel
theorem dX8_hasPart_18 : decode cX8_hasPart 18 = .ok (.iload_n 2, 1) := by decide +kernel
theorem dX8_hasPart_19 : decode cX8_hasPart 19 = .ok (.aload_n 0, 1) := by decide +kernel
theorem dX8_hasPart_20 : decode cX8_hasPart 20 = .ok (.getfield 19, 3) := by decide +kernel
theorem dX8_hasPart_23 : decode cX8_hasPart 23 = .ok (.iload_n 1, 1) := by decide +kernel
theorem dX8_hasPart_24 : decode cX8_hasPart 24 = .ok (.iaload, 1) := by decide +kernel
theorem dX8_hasPart_25 : decode cX8_hasPart 25 = .ok (.iload_n 3, 1) := by decide +kernel
theorem dX8_hasPart_26 : decode cX8_hasPart 26 = .ok (.isub, 1) := by decide +kernel
theorem dX8_hasPart_27 : decode cX8_hasPart 27 = .ok (.if_icmp .gt 7, 3) := by decide +kernel
theorem dX8_hasPart_30 : decode cX8_hasPart 30 = .ok (.iconst 1, 1) := by decide +kernel
theorem dX8_hasPart_31 : decode cX8_hasPart 31 = .ok (.goto 4, 3) := by decide +kernel
theorem dX8_hasPart_34 : decode cX8_hasPart 34 = .ok (.iconst 0, 1) := by decide +kernel
theorem dX8_hasPart_35 : decode cX8_hasPart 35 = .ok (.ireturn, 1) := by decide +kernel
theorem dX8_copy_0 : decode cX8_copy 0 = .ok (.iload_n 1, 1) := by decide +kernel
theorem dX8_copy_1 : decode cX8_copy 1 = .ok (.invokestatic 156, 3) := by decide +kernel
theorem dX8_copy_4 : decode cX8_copy 4 = .ok (.ifCond .eq 10, 3) := by decide +kernel
theorem dX8_copy_7 : decode cX8_copy 7 = .ok (.iload_n 3, 1) := by decide +kernel
theorem dX8_copy_8 : decode cX8_copy 8 = .ok (.invokestatic 156, 3) := by decide +kernel
theorem dX8_copy_11 : decode cX8_copy 11 = .ok (.ifCond .ne 10, 3) := by decide +kernel
theorem dX8_copy_14 : decode cX8_copy 14 = .ok (.aload_n 0, 1) := by decide +kernel
theorem dX8_copy_15 : decode cX8_copy 15 = .ok (.ldc 67, 2) := by decide +kernel
theorem dX8_copy_17 : decode cX8_copy 17 = .ok (.invokevirtual 56, 3) := by decide +kernel
theorem dX8_copy_20 : decode cX8_copy 20 = .ok (.ireturn, 1) := by decide +kernel
theorem dX8_copy_21 : decode cX8_copy 21 = .ok (.aload_n 0, 1) := by decide +kernel
theorem dX8_copy_22 : decode cX8_copy 22 = .ok (.getfield 16, 3) := by decide +kernel
theorem dX8_copy_25 : decode cX8_copy 25 = .ok (.iload_n 1, 1) := by decide +kernel
theorem dX8_copy_26 : decode cX8_copy 26 = .ok (.iaload, 1) := by decide +kernel
theorem dX8_copy_27 : decode cX8_copy 27 = .ok (.ifCond .eq 12, 3) := by decide +kernel
theorem dX8_copy_30 : decode cX8_copy 30 = .ok (.aload_n 0, 1) := by decide +kernel
theorem dX8_copy_31 : decode cX8_copy 31 = .ok (.getfield 16, 3) := by decide +kernel
theorem dX8_copy_34 : decode cX8_copy 34 = .ok (.iload_n 3, 1) := by decide +kernel
theorem dX8_copy_35 : decode cX8_copy 35 = .ok (.iaload, 1) := by decide +kernel
theorem dX8_copy_36 : decode cX8_copy 36 = .ok (.ifCond .ne 10, 3) := by decide +kernel
theorem dX8_copy_39 : decode cX8_copy 39 = .ok (.aload_n 0, 1) := by decide +kernel
theorem dX8_copy_40 : decode cX8_copy 40 = .ok (.ldc 159, 2) := by decide +kernel
theorem dX8_copy_42 : decode cX8_copy 42 = .ok (.invokevirtual 56, 3) := by decide +kernel
theorem dX8_copy_45 : decode cX8_copy 45 = .ok (.ireturn, 1) := by decide +kernel
theorem dX8_copy_46 : decode cX8_copy 46 = .ok (.aload_n 0, 1) := by decide +kernel
theorem dX8_copy_47 : decode cX8_copy 47 = .ok (.getfield 16, 3) := by decide +kernel
theorem dX8_copy_50 : decode cX8_copy 50 = .ok (.iload_n 1, 1) := by decide +kernel
theorem dX8_copy_51 : decode cX8_copy 51 = .ok (.iaload, 1) := by decide +kernel
theorem dX8_copy_52 : decode cX8_copy 52 = .ok (.aload_n 0, 1) := by decide +kernel
theorem dX8_copy_53 : decode cX8_copy 53 = .ok (.getfield 16, 3) := by decide +kernel
theorem dX8_copy_56 : decode cX8_copy 56 = .ok (.iload_n 3, 1) := by decide +kernel
theorem dX8_copy_57 : decode cX8_copy 57 = .ok (.iaload, 1) := by decide +kernel
theorem dX8_copy_58 : decode cX8_copy 58 = .ok (.if_icmp .eq 10, 3) := by decide +kernel
theorem dX8_copy_61 : decode cX8_copy 61 = .ok (.aload_n 0, 1) := by decide +kernel
theorem dX8_copy_62 : decode cX8_copy 62 = .ok (.ldc 97, 2) := by decide +kernel
theorem dX8_copy_64 : decode cX8_copy 64 = .ok (.invokevirtual 56, 3) := by decide +kernel
theorem dX8_copy_67 : decode cX8_copy 67 = .ok (.ireturn, 1) := by decide +kernel
theorem dX8_copy_68 : decode cX8_copy 68 = .ok (.aload_n 0, 1) := by decide +kernel
theorem dX8_copy_69 : decode cX8_copy 69 = .ok (.iload_n 1, 1) := by decide +kernel
theorem dX8_copy_70 : decode cX8_copy 70 = .ok (.iload_n 2, 1) := by decide +kernel
theorem dX8_copy_71 : decode cX8_copy 71 = .ok (.iload 5, 2) := by decide +kernel
theorem dX8_copy_73 : decode cX8_copy 73 = .ok (.invokevirtual 160, 3) := by decide +kernel
theorem dX8_copy_76 : decode cX8_copy 76 = .ok (.ifCond .eq 15, 3) := by decide +kernel
theorem dX8_copy_79 : decode cX8_copy 79 = .ok (.aload_n 0, 1) := by decide +kernel
theorem dX8_copy_80 : decode cX8_copy 80 = .ok (.iload_n 3, 1) := by decide +kernel
theorem dX8_copy_81 : decode cX8_copy 81 = .ok (.iload 4, 2) := by decide +kernel
theorem dX8_copy_83 : decode cX8_copy 83 = .ok (.iload 5, 2) := by decide +kernel
theorem dX8_copy_85 : decode cX8_copy 85 = .ok (.invokevirtual 160, 3) := by decide +kernel
theorem dX8_copy_88 : decode cX8_copy 88 = .ok (.ifCond .ne 10, 3) := by decide +kernel
theorem dX8_copy_91 : decode cX8_copy 91 = .ok (.aload_n 0, 1) := by decide +kernel
theorem dX8_copy_92 : decode cX8_copy 92 = .ok (.ldc 67, 2) := by decide +kernel
theorem dX8_copy_94 : decode cX8_copy 94 = .ok (.invokevirtual 56, 3) := by decide +kernel
theorem dX8_copy_97 : decode cX8_copy 97 = .ok (.ireturn, 1) := by decide +kernel
theorem dX8_copy_98 : decode cX8_copy 98 = .ok (.iconst 0, 1) := by decide +kernel
theorem dX8_copy_99 : decode cX8_copy 99 = .ok (.istore 6, 2) := by decide +kernel
theorem dX8_copy_101 : decode cX8_copy 101 = .ok (.iload 6, 2) := by decide +kernel
theorem dX8_copy_103 : decode cX8_copy 103 = .ok (.iload 5, 2) := by decide +kernel
theorem dX8_copy_105 : decode cX8_copy 105 = .ok (.if_icmp .ge 30, 3) := by decide +kernel
theorem dX8_copy_108 : decode cX8_copy 108 = .ok (.aload_n 0, 1) := by decide +kernel
theorem dX8_copy_109 : decode cX8_copy 109 = .ok (.getfield 41, 3) := by decide +kernel
theorem dX8_copy_112 : decode cX8_copy 112 = .ok (.iload 6, 2) := by decide +kernel
theorem dX8_copy_114 : decode cX8_copy 114 = .ok (.aload_n 0, 1) := by decide +kernel
theorem dX8_copy_115 : decode cX8_copy 115 = .ok (.getfield 22, 3) := by decide +kernel
theorem dX8_copy_118 : decode cX8_copy 118 = .ok (.bipush 40, 2) := by decide +kernel
theorem dX8_copy_120 : decode cX8_copy 120 = .ok (.iload_n 1, 1) := by decide +kernel
theorem dX8_copy_121 : decode cX8_copy 121 = .ok (.imul, 1) := by decide +kernel
theorem dX8_copy_122 : decode cX8_copy 122 = .ok (.iload_n 2, 1) := by decide +kernel
theorem dX8_copy_123 : decode cX8_copy 123 = .ok (.iadd, 1) := by decide +kernel
theorem dX8_copy_124 : decode cX8_copy 124 = .ok (.iload 6, 2) := by decide +kernel
theorem dX8_copy_126 : decode cX8_copy 126 = .ok (.iadd, 1) := by decide +kernel
theorem dX8_copy_127 : decode cX8_copy 127 = .ok (.iaload, 1) := by decide +kernel
theorem dX8_copy_128 : decode cX8_copy 128 = .ok (.iastore, 1) := by decide +kernel
theorem dX8_copy_129 : decode cX8_copy 129 = .ok (.iinc 6 1, 3) := by decide +kernel
theorem dX8_copy_132 : decode cX8_copy 132 = .ok (.goto (-31), 3) := by decide +kernel
theorem dX8_copy_135 : decode cX8_copy 135 = .ok (.iconst 0, 1) := by decide +kernel
theorem dX8_copy_136 : decode cX8_copy 136 = .ok (.istore 6, 2) := by decide +kernel
theorem dX8_copy_138 : decode cX8_copy 138 = .ok (.iload 6, 2) := by decide +kernel
theorem dX8_copy_140 : decode cX8_copy 140 = .ok (.iload 5, 2) := by decide +kernel
theorem dX8_copy_142 : decode cX8_copy 142 = .ok (.if_icmp .ge 31, 3) := by decide +kernel
theorem dX8_copy_145 : decode cX8_copy 145 = .ok (.aload_n 0, 1) := by decide +kernel
theorem dX8_copy_146 : decode cX8_copy 146 = .ok (.getfield 22, 3) := by decide +kernel
theorem dX8_copy_149 : decode cX8_copy 149 = .ok (.bipush 40, 2) := by decide +kernel
theorem dX8_copy_151 : decode cX8_copy 151 = .ok (.iload_n 3, 1) := by decide +kernel
theorem dX8_copy_152 : decode cX8_copy 152 = .ok (.imul, 1) := by decide +kernel
theorem dX8_copy_153 : decode cX8_copy 153 = .ok (.iload 4, 2) := by decide +kernel
theorem dX8_copy_155 : decode cX8_copy 155 = .ok (.iadd, 1) := by decide +kernel
theorem dX8_copy_156 : decode cX8_copy 156 = .ok (.iload 6, 2) := by decide +kernel
theorem dX8_copy_158 : decode cX8_copy 158 = .ok (.iadd, 1) := by decide +kernel
theorem dX8_copy_159 : decode cX8_copy 159 = .ok (.aload_n 0, 1) := by decide +kernel
theorem dX8_copy_160 : decode cX8_copy 160 = .ok (.getfield 41, 3) := by decide +kernel
theorem dX8_copy_163 : decode cX8_copy 163 = .ok (.iload 6, 2) := by decide +kernel
theorem dX8_copy_165 : decode cX8_copy 165 = .ok (.iaload, 1) := by decide +kernel
theorem dX8_copy_166 : decode cX8_copy 166 = .ok (.iastore, 1) := by decide +kernel
theorem dX8_copy_167 : decode cX8_copy 167 = .ok (.iinc 6 1, 3) := by decide +kernel
theorem dX8_copy_170 : decode cX8_copy 170 = .ok (.goto (-32), 3) := by decide +kernel
theorem dX8_copy_173 : decode cX8_copy 173 = .ok (.iload 5, 2) := by decide +kernel
theorem dX8_copy_175 : decode cX8_copy 175 = .ok (.ireturn, 1) := by decide +kernel
theorem dX8_let_0 : decode cX8_let 0 = .ok (.iload_n 1, 1) := by decide +kernel
theorem dX8_let_1 : decode cX8_let 1 = .ok (.invokestatic 74, 3) := by decide +kernel
theorem dX8_let_4 : decode cX8_let 4 = .ok (.ifCond .eq 10, 3) := by decide +kernel
theorem dX8_let_7 : decode cX8_let 7 = .ok (.iload_n 2, 1) := by decide +kernel
theorem dX8_let_8 : decode cX8_let 8 = .ok (.invokestatic 156, 3) := by decide +kernel
theorem dX8_let_11 : decode cX8_let 11 = .ok (.ifCond .ne 10, 3) := by decide +kernel
theorem dX8_let_14 : decode cX8_let 14 = .ok (.aload_n 0, 1) := by decide +kernel
theorem dX8_let_15 : decode cX8_let 15 = .ok (.ldc 67, 2) := by decide +kernel
theorem dX8_let_17 : decode cX8_let 17 = .ok (.invokevirtual 56, 3) := by decide +kernel
theorem dX8_let_20 : decode cX8_let 20 = .ok (.ireturn, 1) := by decide +kernel
theorem dX8_let_21 : decode cX8_let 21 = .ok (.aload_n 0, 1) := by decide +kernel
theorem dX8_let_22 : decode cX8_let 22 = .ok (.getfield 16, 3) := by decide +kernel
theorem dX8_let_25 : decode cX8_let 25 = .ok (.iload_n 2, 1) := by decide +kernel
theorem dX8_let_26 : decode cX8_let 26 = .ok (.iaload, 1) := by decide +kernel
theorem dX8_let_27 : decode cX8_let 27 = .ok (.ifCond .ne 10, 3) := by decide +kernel
theorem dX8_let_30 : decode cX8_let 30 = .ok (.aload_n 0, 1) := by decide +kernel
theorem dX8_let_31 : decode cX8_let 31 = .ok (.ldc 159, 2) := by decide +kernel
theorem dX8_let_33 : decode cX8_let 33 = .ok (.invokevirtual 56, 3) := by decide +kernel
theorem dX8_let_36 : decode cX8_let 36 = .ok (.ireturn, 1) := by decide +kernel
theorem dX8_let_37 : decode cX8_let 37 = .ok (.iconst 4, 1) := by decide +kernel
theorem dX8_let_38 : decode cX8_let 38 = .ok (.iload_n 1, 1) := by decide +kernel
theorem dX8_let_39 : decode cX8_let 39 = .ok (.imul, 1) := by decide +kernel
theorem dX8_let_40 : decode cX8_let 40 = .ok (.aload_n 0, 1) := by decide +kernel
theorem dX8_let_41 : decode cX8_let 41 = .ok (.getfield 19, 3) := by decide +kernel
theorem dX8_let_44 : decode cX8_let 44 = .ok (.iload_n 2, 1) := by decide +kernel
theorem dX8_let_45 : decode cX8_let 45 = .ok (.iaload, 1) := by decide +kernel
theorem dX8_let_46 : decode cX8_let 46 = .ok (.iadd, 1) := by decide +kernel
theorem dX8_let_47 : decode cX8_let 47 = .ok (.bipush 120, 2) := by decide +kernel
theorem dX8_let_49 : decode cX8_let 49 = .ok (.if_icmp .le 10, 3) := by decide +kernel
theorem dX8_let_52 : decode cX8_let 52 = .ok (.aload_n 0, 1) := by decide +kernel
theorem dX8_let_53 : decode cX8_let 53 = .ok (.ldc 73, 2) := by decide +kernel
theorem dX8_let_55 : decode cX8_let 55 = .ok (.invokevirtual 56, 3) := by decide +kernel
theorem dX8_let_58 : decode cX8_let 58 = .ok (.ireturn, 1) := by decide +kernel
theorem dX8_let_59 : decode cX8_let 59 = .ok (.iconst 0, 1) := by decide +kernel
theorem dX8_let_60 : decode cX8_let 60 = .ok (.istore_n 3, 1) := by decide +kernel
theorem dX8_let_61 : decode cX8_let 61 = .ok (.iload_n 3, 1) := by decide +kernel
theorem dX8_let_62 : decode cX8_let 62 = .ok (.aload_n 0, 1) := by decide +kernel
theorem dX8_let_63 : decode cX8_let 63 = .ok (.getfield 19, 3) := by decide +kernel
theorem dX8_let_66 : decode cX8_let 66 = .ok (.iload_n 2, 1) := by decide +kernel
theorem dX8_let_67 : decode cX8_let 67 = .ok (.iaload, 1) := by decide +kernel
theorem dX8_let_68 : decode cX8_let 68 = .ok (.if_icmp .ge 33, 3) := by decide +kernel
theorem dX8_let_71 : decode cX8_let 71 = .ok (.aload_n 0, 1) := by decide +kernel
theorem dX8_let_72 : decode cX8_let 72 = .ok (.getfield 22, 3) := by decide +kernel
theorem dX8_let_75 : decode cX8_let 75 = .ok (.bipush 40, 2) := by decide +kernel
theorem dX8_let_77 : decode cX8_let 77 = .ok (.iload_n 2, 1) := by decide +kernel
theorem dX8_let_78 : decode cX8_let 78 = .ok (.imul, 1) := by decide +kernel
theorem dX8_let_79 : decode cX8_let 79 = .ok (.iload_n 3, 1) := by decide +kernel
theorem dX8_let_80 : decode cX8_let 80 = .ok (.iadd, 1) := by decide +kernel
theorem dX8_let_81 : decode cX8_let 81 = .ok (.iaload, 1) := by decide +kernel
theorem dX8_let_82 : decode cX8_let 82 = .ok (.invokestatic 69, 3) := by decide +kernel
theorem dX8_let_85 : decode cX8_let 85 = .ok (.ifCond .ne 10, 3) := by decide +kernel
theorem dX8_let_88 : decode cX8_let 88 = .ok (.aload_n 0, 1) := by decide +kernel
theorem dX8_let_89 : decode cX8_let 89 = .ok (.ldc 67, 2) := by decide +kernel
theorem dX8_let_91 : decode cX8_let 91 = .ok (.invokevirtual 56, 3) := by decide +kernel
theorem dX8_let_94 : decode cX8_let 94 = .ok (.ireturn, 1) := by decide +kernel
theorem dX8_let_95 : decode cX8_let 95 = .ok (.iinc 3 1, 3) := by decide +kernel
theorem dX8_let_98 : decode cX8_let 98 = .ok (.goto (-37), 3) := by decide +kernel
theorem dX8_let_101 : decode cX8_let 101 = .ok (.aload_n 0, 1) := by decide +kernel
theorem dX8_let_102 : decode cX8_let 102 = .ok (.invokevirtual 60, 3) := by decide +kernel
theorem dX8_let_105 : decode cX8_let 105 = .ok (.iconst 0, 1) := by decide +kernel
theorem dX8_let_106 : decode cX8_let 106 = .ok (.istore_n 3, 1) := by decide +kernel
theorem dX8_let_107 : decode cX8_let 107 = .ok (.iload_n 3, 1) := by decide +kernel
theorem dX8_let_108 : decode cX8_let 108 = .ok (.aload_n 0, 1) := by decide +kernel
theorem dX8_let_109 : decode cX8_let 109 = .ok (.getfield 19, 3) := by decide +kernel
theorem dX8_let_112 : decode cX8_let 112 = .ok (.iload_n 2, 1) := by decide +kernel
theorem dX8_let_113 : decode cX8_let 113 = .ok (.iaload, 1) := by decide +kernel
theorem dX8_let_114 : decode cX8_let 114 = .ok (.if_icmp .ge 33, 3) := by decide +kernel
theorem dX8_let_117 : decode cX8_let 117 = .ok (.aload_n 0, 1) := by decide +kernel
theorem dX8_let_118 : decode cX8_let 118 = .ok (.getfield 7, 3) := by decide +kernel
theorem dX8_let_121 : decode cX8_let 121 = .ok (.bipush 74, 2) := by decide +kernel
theorem dX8_let_123 : decode cX8_let 123 = .ok (.iconst 4, 1) := by decide +kernel
theorem dX8_let_124 : decode cX8_let 124 = .ok (.iload_n 1, 1) := by decide +kernel
theorem dX8_let_125 : decode cX8_let 125 = .ok (.imul, 1) := by decide +kernel
theorem dX8_let_126 : decode cX8_let 126 = .ok (.iadd, 1) := by decide +kernel
theorem dX8_let_127 : decode cX8_let 127 = .ok (.iload_n 3, 1) := by decide +kernel
theorem dX8_let_128 : decode cX8_let 128 = .ok (.iadd, 1) := by decide +kernel
theorem dX8_let_129 : decode cX8_let 129 = .ok (.aload_n 0, 1) := by decide +kernel
theorem dX8_let_130 : decode cX8_let 130 = .ok (.getfield 22, 3) := by decide +kernel
theorem dX8_let_133 : decode cX8_let 133 = .ok (.bipush 40, 2) := by decide +kernel
theorem dX8_let_135 : decode cX8_let 135 = .ok (.iload_n 2, 1) := by decide +kernel
theorem dX8_let_136 : decode cX8_let 136 = .ok (.imul, 1) := by decide +kernel
theorem dX8_let_137 : decode cX8_let 137 = .ok (.iload_n 3, 1) := by decide +kernel
theorem dX8_let_138 : decode cX8_let 138 = .ok (.iadd, 1) := by decide +kernel
theorem dX8_let_139 : decode cX8_let 139 = .ok (.iaload, 1) := by decide +kernel
theorem dX8_let_140 : decode cX8_let 140 = .ok (.iastore, 1) := by decide +kernel
theorem dX8_let_141 : decode cX8_let 141 = .ok (.iinc 3 1, 3) := by decide +kernel
theorem dX8_let_144 : decode cX8_let 144 = .ok (.goto (-37), 3) := by decide +kernel
theorem dX8_let_147 : decode cX8_let 147 = .ok (.aload_n 0, 1) := by decide +kernel
theorem dX8_let_148 : decode cX8_let 148 = .ok (.getfield 19, 3) := by decide +kernel
theorem dX8_let_151 : decode cX8_let 151 = .ok (.iload_n 2, 1) := by decide +kernel
theorem dX8_let_152 : decode cX8_let 152 = .ok (.iaload, 1) := by decide +kernel
theorem dX8_let_153 : decode cX8_let 153 = .ok (.ireturn, 1) := by decide +kernel
theorem dX8_all_0 : decode cX8_all 0 = .ok (.iload_n 1, 1) := by decide +kernel
theorem dX8_all_1 : decode cX8_all 1 = .ok (.tableswitch 80 0 5 #[39, 46, 53, 60, 67, 75], 39) := by decide +kernel
theorem dX8_all_40 : decode cX8_all 40 = .ok (.aload_n 0, 1) := by decide +kernel
theorem dX8_all_41 : decode cX8_all 41 = .ok (.getfield 7, 3) := by decide +kernel
theorem dX8_all_44 : decode cX8_all 44 = .ok (.iconst 2, 1) := by decide +kernel
theorem dX8_all_45 : decode cX8_all 45 = .ok (.iaload, 1) := by decide +kernel
theorem dX8_all_46 : decode cX8_all 46 = .ok (.ireturn, 1) := by decide +kernel
theorem dX8_all_47 : decode cX8_all 47 = .ok (.aload_n 0, 1) := by decide +kernel
theorem dX8_all_48 : decode cX8_all 48 = .ok (.getfield 7, 3) := by decide +kernel
theorem dX8_all_51 : decode cX8_all 51 = .ok (.iconst 3, 1) := by decide +kernel
theorem dX8_all_52 : decode cX8_all 52 = .ok (.iaload, 1) := by decide +kernel
theorem dX8_all_53 : decode cX8_all 53 = .ok (.ireturn, 1) := by decide +kernel
theorem dX8_all_54 : decode cX8_all 54 = .ok (.aload_n 0, 1) := by decide +kernel
theorem dX8_all_55 : decode cX8_all 55 = .ok (.getfield 7, 3) := by decide +kernel
theorem dX8_all_58 : decode cX8_all 58 = .ok (.iconst 4, 1) := by decide +kernel
theorem dX8_all_59 : decode cX8_all 59 = .ok (.iaload, 1) := by decide +kernel
theorem dX8_all_60 : decode cX8_all 60 = .ok (.ireturn, 1) := by decide +kernel
theorem dX8_all_61 : decode cX8_all 61 = .ok (.aload_n 0, 1) := by decide +kernel
theorem dX8_all_62 : decode cX8_all 62 = .ok (.getfield 7, 3) := by decide +kernel
theorem dX8_all_65 : decode cX8_all 65 = .ok (.iconst 5, 1) := by decide +kernel
theorem dX8_all_66 : decode cX8_all 66 = .ok (.iaload, 1) := by decide +kernel
theorem dX8_all_67 : decode cX8_all 67 = .ok (.ireturn, 1) := by decide +kernel
theorem dX8_all_68 : decode cX8_all 68 = .ok (.aload_n 0, 1) := by decide +kernel
theorem dX8_all_69 : decode cX8_all 69 = .ok (.getfield 7, 3) := by decide +kernel
theorem dX8_all_72 : decode cX8_all 72 = .ok (.bipush 6, 2) := by decide +kernel
theorem dX8_all_74 : decode cX8_all 74 = .ok (.iaload, 1) := by decide +kernel
theorem dX8_all_75 : decode cX8_all 75 = .ok (.ireturn, 1) := by decide +kernel
theorem dX8_all_76 : decode cX8_all 76 = .ok (.aload_n 0, 1) := by decide +kernel
theorem dX8_all_77 : decode cX8_all 77 = .ok (.getfield 44, 3) := by decide +kernel
theorem dX8_all_80 : decode cX8_all 80 = .ok (.ireturn, 1) := by decide +kernel
theorem dX8_all_81 : decode cX8_all 81 = .ok (.aload_n 0, 1) := by decide +kernel
theorem dX8_all_82 : decode cX8_all 82 = .ok (.ldc 67, 2) := by decide +kernel
theorem dX8_all_84 : decode cX8_all 84 = .ok (.invokevirtual 56, 3) := by decide +kernel
theorem dX8_all_87 : decode cX8_all 87 = .ok (.ireturn, 1) := by decide +kernel
