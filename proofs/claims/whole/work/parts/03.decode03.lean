theorem dX7_trip_74 : decode cX7_trip 74 = .ok (.ireturn, 1) := by decide +kernel
theorem dX7_trip_75 : decode cX7_trip 75 = .ok (.aload_n 0, 1) := by decide +kernel
theorem dX7_trip_76 : decode cX7_trip 76 = .ok (.getfield 19, 3) := by decide +kernel
theorem dX7_trip_79 : decode cX7_trip 79 = .ok (.iload 6, 2) := by decide +kernel
theorem dX7_trip_81 : decode cX7_trip 81 = .ok (.iconst 0, 1) := by decide +kernel
theorem dX7_trip_82 : decode cX7_trip 82 = .ok (.iload_n 1, 1) := by decide +kernel
theorem dX7_trip_83 : decode cX7_trip 83 = .ok (.invokevirtual 123, 3) := by decide +kernel
theorem dX7_trip_86 : decode cX7_trip 86 = .ok (.aload_n 0, 1) := by decide +kernel
theorem dX7_trip_87 : decode cX7_trip 87 = .ok (.getfield 19, 3) := by decide +kernel
theorem dX7_trip_90 : decode cX7_trip 90 = .ok (.iload 6, 2) := by decide +kernel
theorem dX7_trip_92 : decode cX7_trip 92 = .ok (.iconst 1, 1) := by decide +kernel
theorem dX7_trip_93 : decode cX7_trip 93 = .ok (.iload_n 2, 1) := by decide +kernel
theorem dX7_trip_94 : decode cX7_trip 94 = .ok (.invokevirtual 123, 3) := by decide +kernel
theorem dX7_trip_97 : decode cX7_trip 97 = .ok (.aload_n 0, 1) := by decide +kernel
theorem dX7_trip_98 : decode cX7_trip 98 = .ok (.getfield 19, 3) := by decide +kernel
theorem dX7_trip_101 : decode cX7_trip 101 = .ok (.iload 6, 2) := by decide +kernel
theorem dX7_trip_103 : decode cX7_trip 103 = .ok (.iconst 2, 1) := by decide +kernel
theorem dX7_trip_104 : decode cX7_trip 104 = .ok (.iload_n 3, 1) := by decide +kernel
theorem dX7_trip_105 : decode cX7_trip 105 = .ok (.invokevirtual 123, 3) := by decide +kernel
theorem dX7_trip_108 : decode cX7_trip 108 = .ok (.aload_n 0, 1) := by decide +kernel
theorem dX7_trip_109 : decode cX7_trip 109 = .ok (.getfield 19, 3) := by decide +kernel
theorem dX7_trip_112 : decode cX7_trip 112 = .ok (.iload 6, 2) := by decide +kernel
theorem dX7_trip_114 : decode cX7_trip 114 = .ok (.iconst 3, 1) := by decide +kernel
theorem dX7_trip_115 : decode cX7_trip 115 = .ok (.iload 4, 2) := by decide +kernel
theorem dX7_trip_117 : decode cX7_trip 117 = .ok (.invokevirtual 123, 3) := by decide +kernel
theorem dX7_trip_120 : decode cX7_trip 120 = .ok (.aload_n 0, 1) := by decide +kernel
theorem dX7_trip_121 : decode cX7_trip 121 = .ok (.getfield 19, 3) := by decide +kernel
theorem dX7_trip_124 : decode cX7_trip 124 = .ok (.iload 6, 2) := by decide +kernel
theorem dX7_trip_126 : decode cX7_trip 126 = .ok (.iconst 4, 1) := by decide +kernel
theorem dX7_trip_127 : decode cX7_trip 127 = .ok (.iload 5, 2) := by decide +kernel
theorem dX7_trip_129 : decode cX7_trip 129 = .ok (.invokevirtual 123, 3) := by decide +kernel
theorem dX7_trip_132 : decode cX7_trip 132 = .ok (.aload_n 0, 1) := by decide +kernel
theorem dX7_trip_133 : decode cX7_trip 133 = .ok (.getfield 19, 3) := by decide +kernel
theorem dX7_trip_136 : decode cX7_trip 136 = .ok (.iload 6, 2) := by decide +kernel
theorem dX7_trip_138 : decode cX7_trip 138 = .ok (.invokevirtual 127, 3) := by decide +kernel
theorem dX7_trip_141 : decode cX7_trip 141 = .ok (.aload_n 0, 1) := by decide +kernel
theorem dX7_trip_142 : decode cX7_trip 142 = .ok (.aload_n 0, 1) := by decide +kernel
theorem dX7_trip_143 : decode cX7_trip 143 = .ok (.getfield 19, 3) := by decide +kernel
theorem dX7_trip_146 : decode cX7_trip 146 = .ok (.getfield 131, 3) := by decide +kernel
theorem dX7_trip_149 : decode cX7_trip 149 = .ok (.iconst 0, 1) := by decide +kernel
theorem dX7_trip_150 : decode cX7_trip 150 = .ok (.iload 6, 2) := by decide +kernel
theorem dX7_trip_152 : decode cX7_trip 152 = .ok (.iconst 1, 1) := by decide +kernel
theorem dX7_trip_153 : decode cX7_trip 153 = .ok (.iadd, 1) := by decide +kernel
theorem dX7_trip_154 : decode cX7_trip 154 = .ok (.invokevirtual 68, 3) := by decide +kernel
theorem dX7_trip_157 : decode cX7_trip 157 = .ok (.ireturn, 1) := by decide +kernel
theorem dX7_as_0 : decode cX7_as 0 = .ok (.aload_n 0, 1) := by decide +kernel
theorem dX7_as_1 : decode cX7_as 1 = .ok (.iload_n 1, 1) := by decide +kernel
theorem dX7_as_2 : decode cX7_as 2 = .ok (.invokevirtual 134, 3) := by decide +kernel
theorem dX7_as_5 : decode cX7_as 5 = .ok (.ifCond .eq 10, 3) := by decide +kernel
theorem dX7_as_8 : decode cX7_as 8 = .ok (.iload_n 2, 1) := by decide +kernel
theorem dX7_as_9 : decode cX7_as 9 = .ok (.invokestatic 113, 3) := by decide +kernel
theorem dX7_as_12 : decode cX7_as 12 = .ok (.ifCond .ne 10, 3) := by decide +kernel
theorem dX7_as_15 : decode cX7_as 15 = .ok (.aload_n 0, 1) := by decide +kernel
theorem dX7_as_16 : decode cX7_as 16 = .ok (.ldc 59, 2) := by decide +kernel
theorem dX7_as_18 : decode cX7_as 18 = .ok (.invokevirtual 60, 3) := by decide +kernel
theorem dX7_as_21 : decode cX7_as 21 = .ok (.ireturn, 1) := by decide +kernel
theorem dX7_as_22 : decode cX7_as 22 = .ok (.aload_n 0, 1) := by decide +kernel
theorem dX7_as_23 : decode cX7_as 23 = .ok (.getfield 19, 3) := by decide +kernel
theorem dX7_as_26 : decode cX7_as 26 = .ok (.iload_n 1, 1) := by decide +kernel
theorem dX7_as_27 : decode cX7_as 27 = .ok (.iconst 0, 1) := by decide +kernel
theorem dX7_as_28 : decode cX7_as 28 = .ok (.invokevirtual 137, 3) := by decide +kernel
theorem dX7_as_31 : decode cX7_as 31 = .ok (.istore_n 3, 1) := by decide +kernel
theorem dX7_as_32 : decode cX7_as 32 = .ok (.iconst 0, 1) := by decide +kernel
theorem dX7_as_33 : decode cX7_as 33 = .ok (.istore 4, 2) := by decide +kernel
theorem dX7_as_35 : decode cX7_as 35 = .ok (.iload 4, 2) := by decide +kernel
theorem dX7_as_37 : decode cX7_as 37 = .ok (.iconst 4, 1) := by decide +kernel
theorem dX7_as_38 : decode cX7_as 38 = .ok (.if_icmp .ge 27, 3) := by decide +kernel
theorem dX7_as_41 : decode cX7_as 41 = .ok (.iload_n 3, 1) := by decide +kernel
theorem dX7_as_42 : decode cX7_as 42 = .ok (.iload_n 2, 1) := by decide +kernel
theorem dX7_as_43 : decode cX7_as 43 = .ok (.if_icmp .eq 22, 3) := by decide +kernel
theorem dX7_as_46 : decode cX7_as 46 = .ok (.iload_n 3, 1) := by decide +kernel
theorem dX7_as_47 : decode cX7_as 47 = .ok (.invokestatic 113, 3) := by decide +kernel
theorem dX7_as_50 : decode cX7_as 50 = .ok (.ifCond .eq 15, 3) := by decide +kernel
theorem dX7_as_53 : decode cX7_as 53 = .ok (.getstatic 141, 3) := by decide +kernel
theorem dX7_as_56 : decode cX7_as 56 = .ok (.iload_n 3, 1) := by decide +kernel
theorem dX7_as_57 : decode cX7_as 57 = .ok (.iaload, 1) := by decide +kernel
theorem dX7_as_58 : decode cX7_as 58 = .ok (.istore_n 3, 1) := by decide +kernel
theorem dX7_as_59 : decode cX7_as 59 = .ok (.iinc 4 1, 3) := by decide +kernel
theorem dX7_as_62 : decode cX7_as 62 = .ok (.goto (-27), 3) := by decide +kernel
theorem dX7_as_65 : decode cX7_as 65 = .ok (.iload_n 3, 1) := by decide +kernel
theorem dX7_as_66 : decode cX7_as 66 = .ok (.iload_n 2, 1) := by decide +kernel
theorem dX7_as_67 : decode cX7_as 67 = .ok (.if_icmp .ne 7, 3) := by decide +kernel
theorem dX7_as_70 : decode cX7_as 70 = .ok (.iload_n 1, 1) := by decide +kernel
theorem dX7_as_71 : decode cX7_as 71 = .ok (.goto 9, 3) := by decide +kernel
theorem dX7_as_74 : decode cX7_as 74 = .ok (.aload_n 0, 1) := by decide +kernel
theorem dX7_as_75 : decode cX7_as 75 = .ok (.ldc 144, 2) := by decide +kernel
theorem dX7_as_77 : decode cX7_as 77 = .ok (.invokevirtual 60, 3) := by decide +kernel
theorem dX7_as_80 : decode cX7_as 80 = .ok (.ireturn, 1) := by decide +kernel
theorem dX7_of_0 : decode cX7_of 0 = .ok (.aload_n 0, 1) := by decide +kernel
theorem dX7_of_1 : decode cX7_of 1 = .ok (.iload_n 1, 1) := by decide +kernel
theorem dX7_of_2 : decode cX7_of 2 = .ok (.invokevirtual 134, 3) := by decide +kernel
theorem dX7_of_5 : decode cX7_of 5 = .ok (.ifCond .eq 12, 3) := by decide +kernel
theorem dX7_of_8 : decode cX7_of 8 = .ok (.iload_n 2, 1) := by decide +kernel
theorem dX7_of_9 : decode cX7_of 9 = .ok (.iconst 0, 1) := by decide +kernel
theorem dX7_of_10 : decode cX7_of 10 = .ok (.iconst 5, 1) := by decide +kernel
theorem dX7_of_11 : decode cX7_of 11 = .ok (.invokestatic 55, 3) := by decide +kernel
theorem dX7_of_14 : decode cX7_of 14 = .ok (.ifCond .ne 10, 3) := by decide +kernel
theorem dX7_of_17 : decode cX7_of 17 = .ok (.aload_n 0, 1) := by decide +kernel
theorem dX7_of_18 : decode cX7_of 18 = .ok (.ldc 59, 2) := by decide +kernel
theorem dX7_of_20 : decode cX7_of 20 = .ok (.invokevirtual 60, 3) := by decide +kernel
theorem dX7_of_23 : decode cX7_of 23 = .ok (.ireturn, 1) := by decide +kernel
theorem dX7_of_24 : decode cX7_of 24 = .ok (.iload_n 2, 1) := by decide +kernel
theorem dX7_of_25 : decode cX7_of 25 = .ok (.iconst 5, 1) := by decide +kernel
theorem dX7_of_26 : decode cX7_of 26 = .ok (.if_icmp .ge 15, 3) := by decide +kernel
theorem dX7_of_29 : decode cX7_of 29 = .ok (.aload_n 0, 1) := by decide +kernel
theorem dX7_of_30 : decode cX7_of 30 = .ok (.getfield 19, 3) := by decide +kernel
theorem dX7_of_33 : decode cX7_of 33 = .ok (.iload_n 1, 1) := by decide +kernel
theorem dX7_of_34 : decode cX7_of 34 = .ok (.iload_n 2, 1) := by decide +kernel
theorem dX7_of_35 : decode cX7_of 35 = .ok (.invokevirtual 137, 3) := by decide +kernel
theorem dX7_of_38 : decode cX7_of 38 = .ok (.goto 11, 3) := by decide +kernel
theorem dX7_of_41 : decode cX7_of 41 = .ok (.aload_n 0, 1) := by decide +kernel
theorem dX7_of_42 : decode cX7_of 42 = .ok (.getfield 19, 3) := by decide +kernel
theorem dX7_of_45 : decode cX7_of 45 = .ok (.iload_n 1, 1) := by decide +kernel
theorem dX7_of_46 : decode cX7_of 46 = .ok (.invokevirtual 145, 3) := by decide +kernel
theorem dX7_of_49 : decode cX7_of 49 = .ok (.ireturn, 1) := by decide +kernel
theorem dX7_launch_0 : decode cX7_launch 0 = .ok (.aload_n 0, 1) := by decide +kernel
theorem dX7_launch_1 : decode cX7_launch 1 = .ok (.iload_n 1, 1) := by decide +kernel
theorem dX7_launch_2 : decode cX7_launch 2 = .ok (.invokevirtual 134, 3) := by decide +kernel
theorem dX7_launch_5 : decode cX7_launch 5 = .ok (.ifCond .eq 10, 3) := by decide +kernel
theorem dX7_launch_8 : decode cX7_launch 8 = .ok (.iload_n 2, 1) := by decide +kernel
theorem dX7_launch_9 : decode cX7_launch 9 = .ok (.invokestatic 103, 3) := by decide +kernel
theorem dX7_launch_12 : decode cX7_launch 12 = .ok (.ifCond .ne 10, 3) := by decide +kernel
theorem dX7_launch_15 : decode cX7_launch 15 = .ok (.aload_n 0, 1) := by decide +kernel
theorem dX7_launch_16 : decode cX7_launch 16 = .ok (.ldc 59, 2) := by decide +kernel
theorem dX7_launch_18 : decode cX7_launch 18 = .ok (.invokevirtual 60, 3) := by decide +kernel
theorem dX7_launch_21 : decode cX7_launch 21 = .ok (.ireturn, 1) := by decide +kernel
theorem dX7_launch_22 : decode cX7_launch 22 = .ok (.aload_n 0, 1) := by decide +kernel
theorem dX7_launch_23 : decode cX7_launch 23 = .ok (.iload_n 1, 1) := by decide +kernel
theorem dX7_launch_24 : decode cX7_launch 24 = .ok (.iconst 1, 1) := by decide +kernel
theorem dX7_launch_25 : decode cX7_launch 25 = .ok (.invokevirtual 148, 3) := by decide +kernel
theorem dX7_launch_28 : decode cX7_launch 28 = .ok (.aload_n 0, 1) := by decide +kernel
theorem dX7_launch_29 : decode cX7_launch 29 = .ok (.getfield 19, 3) := by decide +kernel
theorem dX7_launch_32 : decode cX7_launch 32 = .ok (.iload_n 1, 1) := by decide +kernel
theorem dX7_launch_33 : decode cX7_launch 33 = .ok (.iconst 1, 1) := by decide +kernel
theorem dX7_launch_34 : decode cX7_launch 34 = .ok (.invokevirtual 137, 3) := by decide +kernel
theorem dX7_launch_37 : decode cX7_launch 37 = .ok (.istore_n 3, 1) := by decide +kernel
theorem dX7_launch_38 : decode cX7_launch 38 = .ok (.aload_n 0, 1) := by decide +kernel
theorem dX7_launch_39 : decode cX7_launch 39 = .ok (.getfield 19, 3) := by decide +kernel
theorem dX7_launch_42 : decode cX7_launch 42 = .ok (.iload_n 1, 1) := by decide +kernel
theorem dX7_launch_43 : decode cX7_launch 43 = .ok (.iconst 1, 1) := by decide +kernel
theorem dX7_launch_44 : decode cX7_launch 44 = .ok (.iload_n 2, 1) := by decide +kernel
theorem dX7_launch_45 : decode cX7_launch 45 = .ok (.invokevirtual 123, 3) := by decide +kernel
theorem dX7_launch_48 : decode cX7_launch 48 = .ok (.aload_n 0, 1) := by decide +kernel
theorem dX7_launch_49 : decode cX7_launch 49 = .ok (.getfield 19, 3) := by decide +kernel
theorem dX7_launch_52 : decode cX7_launch 52 = .ok (.iload_n 1, 1) := by decide +kernel
theorem dX7_launch_53 : decode cX7_launch 53 = .ok (.invokevirtual 127, 3) := by decide +kernel
theorem dX7_launch_56 : decode cX7_launch 56 = .ok (.iload_n 3, 1) := by decide +kernel
theorem dX7_launch_57 : decode cX7_launch 57 = .ok (.ireturn, 1) := by decide +kernel
theorem dX7_night_0 : decode cX7_night 0 = .ok (.aload_n 0, 1) := by decide +kernel
theorem dX7_night_1 : decode cX7_night 1 = .ok (.iload_n 1, 1) := by decide +kernel
theorem dX7_night_2 : decode cX7_night 2 = .ok (.invokevirtual 134, 3) := by decide +kernel
theorem dX7_night_5 : decode cX7_night 5 = .ok (.ifCond .eq 23, 3) := by decide +kernel
theorem dX7_night_8 : decode cX7_night 8 = .ok (.iload_n 2, 1) := by decide +kernel
theorem dX7_night_9 : decode cX7_night 9 = .ok (.invokestatic 103, 3) := by decide +kernel
theorem dX7_night_12 : decode cX7_night 12 = .ok (.ifCond .eq 16, 3) := by decide +kernel
theorem dX7_night_15 : decode cX7_night 15 = .ok (.iload_n 3, 1) := by decide +kernel
theorem dX7_night_16 : decode cX7_night 16 = .ok (.iconst (-1), 1) := by decide +kernel
theorem dX7_night_17 : decode cX7_night 17 = .ok (.if_icmp .eq 18, 3) := by decide +kernel
theorem dX7_night_20 : decode cX7_night 20 = .ok (.aload_n 0, 1) := by decide +kernel
theorem dX7_night_21 : decode cX7_night 21 = .ok (.iload_n 3, 1) := by decide +kernel
theorem dX7_night_22 : decode cX7_night 22 = .ok (.invokevirtual 152, 3) := by decide +kernel
theorem dX7_night_25 : decode cX7_night 25 = .ok (.ifCond .ne 10, 3) := by decide +kernel
theorem dX7_night_28 : decode cX7_night 28 = .ok (.aload_n 0, 1) := by decide +kernel
theorem dX7_night_29 : decode cX7_night 29 = .ok (.ldc 59, 2) := by decide +kernel
theorem dX7_night_31 : decode cX7_night 31 = .ok (.invokevirtual 60, 3) := by decide +kernel
theorem dX7_night_34 : decode cX7_night 34 = .ok (.ireturn, 1) := by decide +kernel
theorem dX7_night_35 : decode cX7_night 35 = .ok (.iload_n 3, 1) := by decide +kernel
theorem dX7_night_36 : decode cX7_night 36 = .ok (.iconst (-1), 1) := by decide +kernel
theorem dX7_night_37 : decode cX7_night 37 = .ok (.if_icmp .eq 65, 3) := by decide +kernel
theorem dX7_night_40 : decode cX7_night 40 = .ok (.aload_n 0, 1) := by decide +kernel
theorem dX7_night_41 : decode cX7_night 41 = .ok (.getfield 19, 3) := by decide +kernel
theorem dX7_night_44 : decode cX7_night 44 = .ok (.iload_n 3, 1) := by decide +kernel
theorem dX7_night_45 : decode cX7_night 45 = .ok (.iload_n 2, 1) := by decide +kernel
theorem dX7_night_46 : decode cX7_night 46 = .ok (.invokevirtual 155, 3) := by decide +kernel
theorem dX7_night_49 : decode cX7_night 49 = .ok (.istore 4, 2) := by decide +kernel
theorem dX7_night_51 : decode cX7_night 51 = .ok (.iload 4, 2) := by decide +kernel
theorem dX7_night_53 : decode cX7_night 53 = .ok (.iconst (-1), 1) := by decide +kernel
theorem dX7_night_54 : decode cX7_night 54 = .ok (.if_icmp .eq 16, 3) := by decide +kernel
theorem dX7_night_57 : decode cX7_night 57 = .ok (.iload 4, 2) := by decide +kernel
theorem dX7_night_59 : decode cX7_night 59 = .ok (.iload_n 1, 1) := by decide +kernel
theorem dX7_night_60 : decode cX7_night 60 = .ok (.if_icmp .eq 10, 3) := by decide +kernel
theorem dX7_night_63 : decode cX7_night 63 = .ok (.aload_n 0, 1) := by decide +kernel
theorem dX7_night_64 : decode cX7_night 64 = .ok (.ldc 158, 2) := by decide +kernel
theorem dX7_night_66 : decode cX7_night 66 = .ok (.invokevirtual 60, 3) := by decide +kernel
theorem dX7_night_69 : decode cX7_night 69 = .ok (.ireturn, 1) := by decide +kernel
theorem dX7_night_70 : decode cX7_night 70 = .ok (.aload_n 0, 1) := by decide +kernel
theorem dX7_night_71 : decode cX7_night 71 = .ok (.getfield 10, 3) := by decide +kernel
theorem dX7_night_74 : decode cX7_night 74 = .ok (.getfield 79, 3) := by decide +kernel
theorem dX7_night_77 : decode cX7_night 77 = .ok (.iload_n 3, 1) := by decide +kernel
theorem dX7_night_78 : decode cX7_night 78 = .ok (.baload, 1) := by decide +kernel
theorem dX7_night_79 : decode cX7_night 79 = .ok (.ifCond .eq 23, 3) := by decide +kernel
theorem dX7_night_82 : decode cX7_night 82 = .ok (.aload_n 0, 1) := by decide +kernel
theorem dX7_night_83 : decode cX7_night 83 = .ok (.getfield 19, 3) := by decide +kernel
theorem dX7_night_86 : decode cX7_night 86 = .ok (.iload_n 1, 1) := by decide +kernel
theorem dX7_night_87 : decode cX7_night 87 = .ok (.iconst 0, 1) := by decide +kernel
theorem dX7_night_88 : decode cX7_night 88 = .ok (.invokevirtual 137, 3) := by decide +kernel
theorem dX7_night_91 : decode cX7_night 91 = .ok (.iconst 2, 1) := by decide +kernel
theorem dX7_night_92 : decode cX7_night 92 = .ok (.if_icmp .ne 10, 3) := by decide +kernel
theorem dX7_night_95 : decode cX7_night 95 = .ok (.aload_n 0, 1) := by decide +kernel
theorem dX7_night_96 : decode cX7_night 96 = .ok (.ldc 144, 2) := by decide +kernel
theorem dX7_night_98 : decode cX7_night 98 = .ok (.invokevirtual 60, 3) := by decide +kernel
theorem dX7_night_101 : decode cX7_night 101 = .ok (.ireturn, 1) := by decide +kernel
theorem dX7_night_102 : decode cX7_night 102 = .ok (.aload_n 0, 1) := by decide +kernel
theorem dX7_night_103 : decode cX7_night 103 = .ok (.aload_n 0, 1) := by decide +kernel
theorem dX7_night_104 : decode cX7_night 104 = .ok (.getfield 19, 3) := by decide +kernel
theorem dX7_night_107 : decode cX7_night 107 = .ok (.getfield 159, 3) := by decide +kernel
theorem dX7_night_110 : decode cX7_night 110 = .ok (.aload_n 0, 1) := by decide +kernel
theorem dX7_night_111 : decode cX7_night 111 = .ok (.getfield 19, 3) := by decide +kernel
theorem dX7_night_114 : decode cX7_night 114 = .ok (.iload_n 1, 1) := by decide +kernel
theorem dX7_night_115 : decode cX7_night 115 = .ok (.iconst 5, 1) := by decide +kernel
theorem dX7_night_116 : decode cX7_night 116 = .ok (.iload_n 2, 1) := by decide +kernel
theorem dX7_night_117 : decode cX7_night 117 = .ok (.iadd, 1) := by decide +kernel
theorem dX7_night_118 : decode cX7_night 118 = .ok (.invokevirtual 162, 3) := by decide +kernel
theorem dX7_night_121 : decode cX7_night 121 = .ok (.iload_n 3, 1) := by decide +kernel
theorem dX7_night_122 : decode cX7_night 122 = .ok (.invokevirtual 68, 3) := by decide +kernel
theorem dX7_night_125 : decode cX7_night 125 = .ok (.ireturn, 1) := by decide +kernel
theorem dX7_at_0 : decode cX7_at 0 = .ok (.aload_n 0, 1) := by decide +kernel
theorem dX7_at_1 : decode cX7_at 1 = .ok (.iload_n 1, 1) := by decide +kernel
theorem dX7_at_2 : decode cX7_at 2 = .ok (.invokevirtual 134, 3) := by decide +kernel
theorem dX7_at_5 : decode cX7_at 5 = .ok (.ifCond .eq 10, 3) := by decide +kernel
theorem dX7_at_8 : decode cX7_at 8 = .ok (.iload_n 2, 1) := by decide +kernel
theorem dX7_at_9 : decode cX7_at 9 = .ok (.invokestatic 103, 3) := by decide +kernel
theorem dX7_at_12 : decode cX7_at 12 = .ok (.ifCond .ne 10, 3) := by decide +kernel
theorem dX7_at_15 : decode cX7_at 15 = .ok (.aload_n 0, 1) := by decide +kernel
theorem dX7_at_16 : decode cX7_at 16 = .ok (.ldc 59, 2) := by decide +kernel
theorem dX7_at_18 : decode cX7_at 18 = .ok (.invokevirtual 60, 3) := by decide +kernel
theorem dX7_at_21 : decode cX7_at 21 = .ok (.ireturn, 1) := by decide +kernel
theorem dX7_at_22 : decode cX7_at 22 = .ok (.aload_n 0, 1) := by decide +kernel
theorem dX7_at_23 : decode cX7_at 23 = .ok (.getfield 19, 3) := by decide +kernel
theorem dX7_at_26 : decode cX7_at 26 = .ok (.iload_n 1, 1) := by decide +kernel
theorem dX7_at_27 : decode cX7_at 27 = .ok (.iconst 5, 1) := by decide +kernel
theorem dX7_at_28 : decode cX7_at 28 = .ok (.iload_n 2, 1) := by decide +kernel
theorem dX7_at_29 : decode cX7_at 29 = .ok (.iadd, 1) := by decide +kernel
theorem dX7_at_30 : decode cX7_at 30 = .ok (.invokevirtual 137, 3) := by decide +kernel
theorem dX7_at_33 : decode cX7_at 33 = .ok (.istore_n 3, 1) := by decide +kernel
theorem dX7_at_34 : decode cX7_at 34 = .ok (.iload_n 3, 1) := by decide +kernel
theorem dX7_at_35 : decode cX7_at 35 = .ok (.iconst (-1), 1) := by decide +kernel
theorem dX7_at_36 : decode cX7_at 36 = .ok (.if_icmp .ne 12, 3) := by decide +kernel
theorem dX7_at_39 : decode cX7_at 39 = .ok (.aload_n 0, 1) := by decide +kernel
theorem dX7_at_40 : decode cX7_at 40 = .ok (.ldc 165, 2) := by decide +kernel
theorem dX7_at_42 : decode cX7_at 42 = .ok (.invokevirtual 60, 3) := by decide +kernel
theorem dX7_at_45 : decode cX7_at 45 = .ok (.goto 4, 3) := by decide +kernel
theorem dX7_at_48 : decode cX7_at 48 = .ok (.iload_n 3, 1) := by decide +kernel
theorem dX7_at_49 : decode cX7_at 49 = .ok (.ireturn, 1) := by decide +kernel
theorem dX7_who_0 : decode cX7_who 0 = .ok (.aload_n 0, 1) := by decide +kernel
theorem dX7_who_1 : decode cX7_who 1 = .ok (.iload_n 1, 1) := by decide +kernel
theorem dX7_who_2 : decode cX7_who 2 = .ok (.invokevirtual 152, 3) := by decide +kernel
theorem dX7_who_5 : decode cX7_who 5 = .ok (.ifCond .eq 10, 3) := by decide +kernel
theorem dX7_who_8 : decode cX7_who 8 = .ok (.iload_n 2, 1) := by decide +kernel
theorem dX7_who_9 : decode cX7_who 9 = .ok (.invokestatic 103, 3) := by decide +kernel
theorem dX7_who_12 : decode cX7_who 12 = .ok (.ifCond .ne 10, 3) := by decide +kernel
theorem dX7_who_15 : decode cX7_who 15 = .ok (.aload_n 0, 1) := by decide +kernel
theorem dX7_who_16 : decode cX7_who 16 = .ok (.ldc 59, 2) := by decide +kernel
theorem dX7_who_18 : decode cX7_who 18 = .ok (.invokevirtual 60, 3) := by decide +kernel
theorem dX7_who_21 : decode cX7_who 21 = .ok (.ireturn, 1) := by decide +kernel
theorem dX7_who_22 : decode cX7_who 22 = .ok (.aload_n 0, 1) := by decide +kernel
theorem dX7_who_23 : decode cX7_who 23 = .ok (.getfield 19, 3) := by decide +kernel
theorem dX7_who_26 : decode cX7_who 26 = .ok (.iload_n 1, 1) := by decide +kernel
theorem dX7_who_27 : decode cX7_who 27 = .ok (.iload_n 2, 1) := by decide +kernel
theorem dX7_who_28 : decode cX7_who 28 = .ok (.invokevirtual 155, 3) := by decide +kernel
theorem dX7_who_31 : decode cX7_who 31 = .ok (.istore_n 3, 1) := by decide +kernel
theorem dX7_who_32 : decode cX7_who 32 = .ok (.iload_n 3, 1) := by decide +kernel
theorem dX7_who_33 : decode cX7_who 33 = .ok (.iconst (-1), 1) := by decide +kernel
theorem dX7_who_34 : decode cX7_who 34 = .ok (.if_icmp .ne 12, 3) := by decide +kernel
theorem dX7_who_37 : decode cX7_who 37 = .ok (.aload_n 0, 1) := by decide +kernel
theorem dX7_who_38 : decode cX7_who 38 = .ok (.ldc 165, 2) := by decide +kernel
theorem dX7_who_40 : decode cX7_who 40 = .ok (.invokevirtual 60, 3) := by decide +kernel
theorem dX7_who_43 : decode cX7_who 43 = .ok (.goto 4, 3) := by decide +kernel
theorem dX7_who_46 : decode cX7_who 46 = .ok (.iload_n 3, 1) := by decide +kernel
theorem dX7_who_47 : decode cX7_who 47 = .ok (.ireturn, 1) := by decide +kernel
theorem dX7_plan_0 : decode cX7_plan 0 = .ok (.aload_n 0, 1) := by decide +kernel
theorem dX7_plan_1 : decode cX7_plan 1 = .ok (.iload_n 1, 1) := by decide +kernel
theorem dX7_plan_2 : decode cX7_plan 2 = .ok (.invokevirtual 134, 3) := by decide +kernel
theorem dX7_plan_5 : decode cX7_plan 5 = .ok (.ifCond .ne 10, 3) := by decide +kernel
theorem dX7_plan_8 : decode cX7_plan 8 = .ok (.aload_n 0, 1) := by decide +kernel
theorem dX7_plan_9 : decode cX7_plan 9 = .ok (.ldc 59, 2) := by decide +kernel
theorem dX7_plan_11 : decode cX7_plan 11 = .ok (.invokevirtual 60, 3) := by decide +kernel
theorem dX7_plan_14 : decode cX7_plan 14 = .ok (.ireturn, 1) := by decide +kernel
theorem dX7_plan_15 : decode cX7_plan 15 = .ok (.aload_n 0, 1) := by decide +kernel
theorem dX7_plan_16 : decode cX7_plan 16 = .ok (.getfield 26, 3) := by decide +kernel
theorem dX7_plan_19 : decode cX7_plan 19 = .ok (.aload_n 0, 1) := by decide +kernel
theorem dX7_plan_20 : decode cX7_plan 20 = .ok (.getfield 10, 3) := by decide +kernel
theorem dX7_plan_23 : decode cX7_plan 23 = .ok (.aload_n 0, 1) := by decide +kernel
theorem dX7_plan_24 : decode cX7_plan 24 = .ok (.getfield 19, 3) := by decide +kernel
theorem dX7_plan_27 : decode cX7_plan 27 = .ok (.iload_n 1, 1) := by decide +kernel
theorem dX7_plan_28 : decode cX7_plan 28 = .ok (.invokevirtual 166, 3) := by decide +kernel
theorem dX7_plan_31 : decode cX7_plan 31 = .ok (.ifCond .eq 13, 3) := by decide +kernel
theorem dX7_plan_34 : decode cX7_plan 34 = .ok (.aload_n 0, 1) := by decide +kernel
theorem dX7_plan_35 : decode cX7_plan 35 = .ok (.getfield 26, 3) := by decide +kernel
theorem dX7_plan_38 : decode cX7_plan 38 = .ok (.getfield 170, 3) := by decide +kernel
theorem dX7_plan_41 : decode cX7_plan 41 = .ok (.goto 9, 3) := by decide +kernel
theorem dX7_plan_44 : decode cX7_plan 44 = .ok (.aload_n 0, 1) := by decide +kernel
theorem dX7_plan_45 : decode cX7_plan 45 = .ok (.ldc 165, 2) := by decide +kernel
theorem dX7_plan_47 : decode cX7_plan 47 = .ok (.invokevirtual 60, 3) := by decide +kernel
theorem dX7_plan_50 : decode cX7_plan 50 = .ok (.ireturn, 1) := by decide +kernel
theorem dX7_planned_0 : decode cX7_planned 0 = .ok (.aload_n 0, 1) := by decide +kernel
theorem dX7_planned_1 : decode cX7_planned 1 = .ok (.iload_n 1, 1) := by decide +kernel
theorem dX7_planned_2 : decode cX7_planned 2 = .ok (.invokevirtual 134, 3) := by decide +kernel
theorem dX7_planned_5 : decode cX7_planned 5 = .ok (.ifCond .ne 10, 3) := by decide +kernel
theorem dX7_planned_8 : decode cX7_planned 8 = .ok (.aload_n 0, 1) := by decide +kernel
theorem dX7_planned_9 : decode cX7_planned 9 = .ok (.ldc 59, 2) := by decide +kernel
theorem dX7_planned_11 : decode cX7_planned 11 = .ok (.invokevirtual 60, 3) := by decide +kernel
theorem dX7_planned_14 : decode cX7_planned 14 = .ok (.ireturn, 1) := by decide +kernel
theorem dX7_planned_15 : decode cX7_planned 15 = .ok (.aload_n 0, 1) := by decide +kernel
theorem dX7_planned_16 : decode cX7_planned 16 = .ok (.getfield 26, 3) := by decide +kernel
theorem dX7_planned_19 : decode cX7_planned 19 = .ok (.aload_n 0, 1) := by decide +kernel
theorem dX7_planned_20 : decode cX7_planned 20 = .ok (.getfield 10, 3) := by decide +kernel
theorem dX7_planned_23 : decode cX7_planned 23 = .ok (.aload_n 0, 1) := by decide +kernel
theorem dX7_planned_24 : decode cX7_planned 24 = .ok (.getfield 19, 3) := by decide +kernel
theorem dX7_planned_27 : decode cX7_planned 27 = .ok (.iload_n 1, 1) := by decide +kernel
theorem dX7_planned_28 : decode cX7_planned 28 = .ok (.invokevirtual 166, 3) := by decide +kernel
theorem dX7_planned_31 : decode cX7_planned 31 = .ok (.ifCond .ne 10, 3) := by decide +kernel
theorem dX7_planned_34 : decode cX7_planned 34 = .ok (.aload_n 0, 1) := by decide +kernel
theorem dX7_planned_35 : decode cX7_planned 35 = .ok (.ldc 165, 2) := by decide +kernel
theorem dX7_planned_37 : decode cX7_planned 37 = .ok (.invokevirtual 60, 3) := by decide +kernel
theorem dX7_planned_40 : decode cX7_planned 40 = .ok (.ireturn, 1) := by decide +kernel
theorem dX7_planned_41 : decode cX7_planned 41 = .ok (.iload_n 2, 1) := by decide +kernel
theorem dX7_planned_42 : decode cX7_planned 42 = .ok (.iconst 0, 1) := by decide +kernel
theorem dX7_planned_43 : decode cX7_planned 43 = .ok (.aload_n 0, 1) := by decide +kernel
theorem dX7_planned_44 : decode cX7_planned 44 = .ok (.getfield 26, 3) := by decide +kernel
theorem dX7_planned_47 : decode cX7_planned 47 = .ok (.getfield 170, 3) := by decide +kernel
theorem dX7_planned_50 : decode cX7_planned 50 = .ok (.iconst 1, 1) := by decide +kernel
theorem dX7_planned_51 : decode cX7_planned 51 = .ok (.isub, 1) := by decide +kernel
theorem dX7_planned_52 : decode cX7_planned 52 = .ok (.invokestatic 55, 3) := by decide +kernel
theorem dX7_planned_55 : decode cX7_planned 55 = .ok (.ifCond .ne 10, 3) := by decide +kernel
theorem dX7_planned_58 : decode cX7_planned 58 = .ok (.aload_n 0, 1) := by decide +kernel
theorem dX7_planned_59 : decode cX7_planned 59 = .ok (.ldc 59, 2) := by decide +kernel
theorem dX7_planned_61 : decode cX7_planned 61 = .ok (.invokevirtual 60, 3) := by decide +kernel
theorem dX7_planned_64 : decode cX7_planned 64 = .ok (.ireturn, 1) := by decide +kernel
theorem dX7_planned_65 : decode cX7_planned 65 = .ok (.iload_n 2, 1) := by decide +kernel
theorem dX7_planned_66 : decode cX7_planned 66 = .ok (.aload_n 0, 1) := by decide +kernel
theorem dX7_planned_67 : decode cX7_planned 67 = .ok (.getfield 26, 3) := by decide +kernel
theorem dX7_planned_70 : decode cX7_planned 70 = .ok (.getfield 170, 3) := by decide +kernel
theorem dX7_planned_73 : decode cX7_planned 73 = .ok (.iconst 1, 1) := by decide +kernel
theorem dX7_planned_74 : decode cX7_planned 74 = .ok (.isub, 1) := by decide +kernel
theorem dX7_planned_75 : decode cX7_planned 75 = .ok (.if_icmp .ne 7, 3) := by decide +kernel
theorem dX7_planned_78 : decode cX7_planned 78 = .ok (.iconst (-1), 1) := by decide +kernel
theorem dX7_planned_79 : decode cX7_planned 79 = .ok (.goto 12, 3) := by decide +kernel
theorem dX7_planned_82 : decode cX7_planned 82 = .ok (.aload_n 0, 1) := by decide +kernel
theorem dX7_planned_83 : decode cX7_planned 83 = .ok (.getfield 26, 3) := by decide +kernel
theorem dX7_planned_86 : decode cX7_planned 86 = .ok (.getfield 173, 3) := by decide +kernel
theorem dX7_planned_89 : decode cX7_planned 89 = .ok (.iload_n 2, 1) := by decide +kernel
theorem dX7_planned_90 : decode cX7_planned 90 = .ok (.iaload, 1) := by decide +kernel
theorem dX7_planned_91 : decode cX7_planned 91 = .ok (.ireturn, 1) := by decide +kernel
theorem dX7_take_0 : decode cX7_take 0 = .ok (.aload_n 0, 1) := by decide +kernel
theorem dX7_take_1 : decode cX7_take 1 = .ok (.iload_n 1, 1) := by decide +kernel
theorem dX7_take_2 : decode cX7_take 2 = .ok (.invokevirtual 134, 3) := by decide +kernel
theorem dX7_take_5 : decode cX7_take 5 = .ok (.ifCond .ne 10, 3) := by decide +kernel
theorem dX7_take_8 : decode cX7_take 8 = .ok (.aload_n 0, 1) := by decide +kernel
theorem dX7_take_9 : decode cX7_take 9 = .ok (.ldc 59, 2) := by decide +kernel
theorem dX7_take_11 : decode cX7_take 11 = .ok (.invokevirtual 60, 3) := by decide +kernel
theorem dX7_take_14 : decode cX7_take 14 = .ok (.ireturn, 1) := by decide +kernel
theorem dX7_take_15 : decode cX7_take 15 = .ok (.aload_n 0, 1) := by decide +kernel
theorem dX7_take_16 : decode cX7_take 16 = .ok (.getfield 26, 3) := by decide +kernel
theorem dX7_take_19 : decode cX7_take 19 = .ok (.aload_n 0, 1) := by decide +kernel
theorem dX7_take_20 : decode cX7_take 20 = .ok (.getfield 10, 3) := by decide +kernel
theorem dX7_take_23 : decode cX7_take 23 = .ok (.aload_n 0, 1) := by decide +kernel
theorem dX7_take_24 : decode cX7_take 24 = .ok (.getfield 19, 3) := by decide +kernel
theorem dX7_take_27 : decode cX7_take 27 = .ok (.iload_n 1, 1) := by decide +kernel
theorem dX7_take_28 : decode cX7_take 28 = .ok (.invokevirtual 166, 3) := by decide +kernel
theorem dX7_take_31 : decode cX7_take 31 = .ok (.ifCond .ne 10, 3) := by decide +kernel
theorem dX7_take_34 : decode cX7_take 34 = .ok (.aload_n 0, 1) := by decide +kernel
theorem dX7_take_35 : decode cX7_take 35 = .ok (.ldc 165, 2) := by decide +kernel
theorem dX7_take_37 : decode cX7_take 37 = .ok (.invokevirtual 60, 3) := by decide +kernel
theorem dX7_take_40 : decode cX7_take 40 = .ok (.ireturn, 1) := by decide +kernel
theorem dX7_take_41 : decode cX7_take 41 = .ok (.aload_n 0, 1) := by decide +kernel
theorem dX7_take_42 : decode cX7_take 42 = .ok (.iload_n 1, 1) := by decide +kernel
theorem dX7_take_43 : decode cX7_take 43 = .ok (.iconst 1, 1) := by decide +kernel
theorem dX7_take_44 : decode cX7_take 44 = .ok (.invokevirtual 148, 3) := by decide +kernel
theorem dX7_take_47 : decode cX7_take 47 = .ok (.aload_n 0, 1) := by decide +kernel
theorem dX7_take_48 : decode cX7_take 48 = .ok (.getfield 26, 3) := by decide +kernel
theorem dX7_take_51 : decode cX7_take 51 = .ok (.aload_n 0, 1) := by decide +kernel
theorem dX7_take_52 : decode cX7_take 52 = .ok (.getfield 19, 3) := by decide +kernel
theorem dX7_take_55 : decode cX7_take 55 = .ok (.iload_n 1, 1) := by decide +kernel
theorem dX7_take_56 : decode cX7_take 56 = .ok (.invokevirtual 176, 3) := by decide +kernel
theorem dX7_take_59 : decode cX7_take 59 = .ok (.aload_n 0, 1) := by decide +kernel
theorem dX7_take_60 : decode cX7_take 60 = .ok (.getfield 26, 3) := by decide +kernel
theorem dX7_take_63 : decode cX7_take 63 = .ok (.getfield 170, 3) := by decide +kernel
theorem dX7_take_66 : decode cX7_take 66 = .ok (.iconst 1, 1) := by decide +kernel
theorem dX7_take_67 : decode cX7_take 67 = .ok (.isub, 1) := by decide +kernel
theorem dX7_take_68 : decode cX7_take 68 = .ok (.ireturn, 1) := by decide +kernel
theorem dX7_calendar_0 : decode cX7_calendar 0 = .ok (.aload_n 0, 1) := by decide +kernel
theorem dX7_calendar_1 : decode cX7_calendar 1 = .ok (.iload_n 1, 1) := by decide +kernel
theorem dX7_calendar_2 : decode cX7_calendar 2 = .ok (.invokevirtual 180, 3) := by decide +kernel
theorem dX7_calendar_5 : decode cX7_calendar 5 = .ok (.ifCond .ne 10, 3) := by decide +kernel
theorem dX7_calendar_8 : decode cX7_calendar 8 = .ok (.aload_n 0, 1) := by decide +kernel
theorem dX7_calendar_9 : decode cX7_calendar 9 = .ok (.ldc 59, 2) := by decide +kernel
theorem dX7_calendar_11 : decode cX7_calendar 11 = .ok (.invokevirtual 60, 3) := by decide +kernel
theorem dX7_calendar_14 : decode cX7_calendar 14 = .ok (.ireturn, 1) := by decide +kernel
theorem dX7_calendar_15 : decode cX7_calendar 15 = .ok (.aload_n 0, 1) := by decide +kernel
theorem dX7_calendar_16 : decode cX7_calendar 16 = .ok (.getfield 19, 3) := by decide +kernel
theorem dX7_calendar_19 : decode cX7_calendar 19 = .ok (.invokevirtual 183, 3) := by decide +kernel
theorem dX7_calendar_22 : decode cX7_calendar 22 = .ok (.aload_n 0, 1) := by decide +kernel
theorem dX7_calendar_23 : decode cX7_calendar 23 = .ok (.getfield 26, 3) := by decide +kernel
theorem dX7_calendar_26 : decode cX7_calendar 26 = .ok (.aload_n 0, 1) := by decide +kernel
theorem dX7_calendar_27 : decode cX7_calendar 27 = .ok (.getfield 10, 3) := by decide +kernel
theorem dX7_calendar_30 : decode cX7_calendar 30 = .ok (.aload_n 0, 1) := by decide +kernel
theorem dX7_calendar_31 : decode cX7_calendar 31 = .ok (.getfield 19, 3) := by decide +kernel
theorem dX7_calendar_34 : decode cX7_calendar 34 = .ok (.iload_n 1, 1) := by decide +kernel
theorem dX7_calendar_35 : decode cX7_calendar 35 = .ok (.invokevirtual 186, 3) := by decide +kernel
theorem dX7_calendar_38 : decode cX7_calendar 38 = .ok (.istore_n 2, 1) := by decide +kernel
theorem dX7_calendar_39 : decode cX7_calendar 39 = .ok (.aload_n 0, 1) := by decide +kernel
theorem dX7_calendar_40 : decode cX7_calendar 40 = .ok (.getfield 19, 3) := by decide +kernel
theorem dX7_calendar_43 : decode cX7_calendar 43 = .ok (.invokevirtual 190, 3) := by decide +kernel
theorem dX7_calendar_46 : decode cX7_calendar 46 = .ok (.iload_n 2, 1) := by decide +kernel
theorem dX7_calendar_47 : decode cX7_calendar 47 = .ok (.ireturn, 1) := by decide +kernel
theorem dX7_fill_0 : decode cX7_fill 0 = .ok (.aload_n 0, 1) := by decide +kernel
theorem dX7_fill_1 : decode cX7_fill 1 = .ok (.iload_n 1, 1) := by decide +kernel
theorem dX7_fill_2 : decode cX7_fill 2 = .ok (.invokevirtual 180, 3) := by decide +kernel
theorem dX7_fill_5 : decode cX7_fill 5 = .ok (.ifCond .ne 10, 3) := by decide +kernel
theorem dX7_fill_8 : decode cX7_fill 8 = .ok (.aload_n 0, 1) := by decide +kernel
theorem dX7_fill_9 : decode cX7_fill 9 = .ok (.ldc 59, 2) := by decide +kernel
theorem dX7_fill_11 : decode cX7_fill 11 = .ok (.invokevirtual 60, 3) := by decide +kernel
theorem dX7_fill_14 : decode cX7_fill 14 = .ok (.ireturn, 1) := by decide +kernel
theorem dX7_fill_15 : decode cX7_fill 15 = .ok (.aload_n 0, 1) := by decide +kernel
theorem dX7_fill_16 : decode cX7_fill 16 = .ok (.iconst 0, 1) := by decide +kernel
theorem dX7_fill_17 : decode cX7_fill 17 = .ok (.aload_n 0, 1) := by decide +kernel
theorem dX7_fill_18 : decode cX7_fill 18 = .ok (.getfield 19, 3) := by decide +kernel
theorem dX7_fill_21 : decode cX7_fill 21 = .ok (.invokevirtual 119, 3) := by decide +kernel
theorem dX7_fill_24 : decode cX7_fill 24 = .ok (.invokevirtual 148, 3) := by decide +kernel
theorem dX7_fill_27 : decode cX7_fill 27 = .ok (.aload_n 0, 1) := by decide +kernel
theorem dX7_fill_28 : decode cX7_fill 28 = .ok (.getfield 26, 3) := by decide +kernel
theorem dX7_fill_31 : decode cX7_fill 31 = .ok (.aload_n 0, 1) := by decide +kernel
theorem dX7_fill_32 : decode cX7_fill 32 = .ok (.getfield 10, 3) := by decide +kernel
theorem dX7_fill_35 : decode cX7_fill 35 = .ok (.aload_n 0, 1) := by decide +kernel
theorem dX7_fill_36 : decode cX7_fill 36 = .ok (.getfield 19, 3) := by decide +kernel
theorem dX7_fill_39 : decode cX7_fill 39 = .ok (.iload_n 1, 1) := by decide +kernel
theorem dX7_fill_40 : decode cX7_fill 40 = .ok (.invokevirtual 186, 3) := by decide +kernel
theorem dX7_fill_43 : decode cX7_fill 43 = .ok (.ireturn, 1) := by decide +kernel
theorem dX7_near_0 : decode cX7_near 0 = .ok (.aload_n 0, 1) := by decide +kernel
theorem dX7_near_1 : decode cX7_near 1 = .ok (.iload_n 1, 1) := by decide +kernel
theorem dX7_near_2 : decode cX7_near 2 = .ok (.invokevirtual 134, 3) := by decide +kernel
theorem dX7_near_5 : decode cX7_near 5 = .ok (.ifCond .eq 18, 3) := by decide +kernel
theorem dX7_near_8 : decode cX7_near 8 = .ok (.aload_n 0, 1) := by decide +kernel
theorem dX7_near_9 : decode cX7_near 9 = .ok (.iload_n 2, 1) := by decide +kernel
theorem dX7_near_10 : decode cX7_near 10 = .ok (.invokevirtual 134, 3) := by decide +kernel
theorem dX7_near_13 : decode cX7_near 13 = .ok (.ifCond .eq 10, 3) := by decide +kernel
theorem dX7_near_16 : decode cX7_near 16 = .ok (.iload_n 3, 1) := by decide +kernel
theorem dX7_near_17 : decode cX7_near 17 = .ok (.invokestatic 97, 3) := by decide +kernel
theorem dX7_near_20 : decode cX7_near 20 = .ok (.ifCond .ne 10, 3) := by decide +kernel
theorem dX7_near_23 : decode cX7_near 23 = .ok (.aload_n 0, 1) := by decide +kernel
theorem dX7_near_24 : decode cX7_near 24 = .ok (.ldc 59, 2) := by decide +kernel
theorem dX7_near_26 : decode cX7_near 26 = .ok (.invokevirtual 60, 3) := by decide +kernel
theorem dX7_near_29 : decode cX7_near 29 = .ok (.ireturn, 1) := by decide +kernel
theorem dX7_near_30 : decode cX7_near 30 = .ok (.iload_n 1, 1) := by decide +kernel
theorem dX7_near_31 : decode cX7_near 31 = .ok (.iload_n 2, 1) := by decide +kernel
theorem dX7_near_32 : decode cX7_near 32 = .ok (.if_icmp .ne 10, 3) := by decide +kernel
theorem dX7_near_35 : decode cX7_near 35 = .ok (.aload_n 0, 1) := by decide +kernel
theorem dX7_near_36 : decode cX7_near 36 = .ok (.ldc 87, 2) := by decide +kernel
theorem dX7_near_38 : decode cX7_near 38 = .ok (.invokevirtual 60, 3) := by decide +kernel
theorem dX7_near_41 : decode cX7_near 41 = .ok (.ireturn, 1) := by decide +kernel
theorem dX7_near_42 : decode cX7_near 42 = .ok (.iconst 0, 1) := by decide +kernel
theorem dX7_near_43 : decode cX7_near 43 = .ok (.istore 4, 2) := by decide +kernel
theorem dX7_near_45 : decode cX7_near 45 = .ok (.iconst 0, 1) := by decide +kernel
theorem dX7_near_46 : decode cX7_near 46 = .ok (.istore 5, 2) := by decide +kernel
theorem dX7_near_48 : decode cX7_near 48 = .ok (.iload 5, 2) := by decide +kernel
theorem dX7_near_50 : decode cX7_near 50 = .ok (.bipush 30, 2) := by decide +kernel
theorem dX7_near_52 : decode cX7_near 52 = .ok (.if_icmp .ge 86, 3) := by decide +kernel
theorem dX7_near_55 : decode cX7_near 55 = .ok (.aload_n 0, 1) := by decide +kernel
theorem dX7_near_56 : decode cX7_near 56 = .ok (.getfield 19, 3) := by decide +kernel
theorem dX7_near_59 : decode cX7_near 59 = .ok (.iload_n 1, 1) := by decide +kernel
theorem dX7_near_60 : decode cX7_near 60 = .ok (.iconst 5, 1) := by decide +kernel
theorem dX7_near_61 : decode cX7_near 61 = .ok (.iload 5, 2) := by decide +kernel
theorem dX7_near_63 : decode cX7_near 63 = .ok (.iadd, 1) := by decide +kernel
theorem dX7_near_64 : decode cX7_near 64 = .ok (.invokevirtual 137, 3) := by decide +kernel
theorem dX7_near_67 : decode cX7_near 67 = .ok (.istore 6, 2) := by decide +kernel
theorem dX7_near_69 : decode cX7_near 69 = .ok (.aload_n 0, 1) := by decide +kernel
theorem dX7_near_70 : decode cX7_near 70 = .ok (.getfield 19, 3) := by decide +kernel
theorem dX7_near_73 : decode cX7_near 73 = .ok (.iload_n 2, 1) := by decide +kernel
theorem dX7_near_74 : decode cX7_near 74 = .ok (.iconst 5, 1) := by decide +kernel
theorem dX7_near_75 : decode cX7_near 75 = .ok (.iload 5, 2) := by decide +kernel
theorem dX7_near_77 : decode cX7_near 77 = .ok (.iadd, 1) := by decide +kernel
theorem dX7_near_78 : decode cX7_near 78 = .ok (.invokevirtual 137, 3) := by decide +kernel
theorem dX7_near_81 : decode cX7_near 81 = .ok (.istore 7, 2) := by decide +kernel
theorem dX7_near_83 : decode cX7_near 83 = .ok (.aload_n 0, 1) := by decide +kernel
theorem dX7_near_84 : decode cX7_near 84 = .ok (.iload 6, 2) := by decide +kernel
theorem dX7_near_86 : decode cX7_near 86 = .ok (.invokevirtual 152, 3) := by decide +kernel
theorem dX7_near_89 : decode cX7_near 89 = .ok (.ifCond .eq 43, 3) := by decide +kernel
theorem dX7_near_92 : decode cX7_near 92 = .ok (.aload_n 0, 1) := by decide +kernel
theorem dX7_near_93 : decode cX7_near 93 = .ok (.iload 7, 2) := by decide +kernel
theorem dX7_near_95 : decode cX7_near 95 = .ok (.invokevirtual 152, 3) := by decide +kernel
theorem dX7_near_98 : decode cX7_near 98 = .ok (.ifCond .eq 34, 3) := by decide +kernel
theorem dX7_near_101 : decode cX7_near 101 = .ok (.aload_n 0, 1) := by decide +kernel
theorem dX7_near_102 : decode cX7_near 102 = .ok (.getfield 10, 3) := by decide +kernel
theorem dX7_near_105 : decode cX7_near 105 = .ok (.getfield 76, 3) := by decide +kernel
theorem dX7_near_108 : decode cX7_near 108 = .ok (.iload 6, 2) := by decide +kernel
theorem dX7_near_110 : decode cX7_near 110 = .ok (.iaload, 1) := by decide +kernel
theorem dX7_near_111 : decode cX7_near 111 = .ok (.aload_n 0, 1) := by decide +kernel
theorem dX7_near_112 : decode cX7_near 112 = .ok (.getfield 10, 3) := by decide +kernel
theorem dX7_near_115 : decode cX7_near 115 = .ok (.getfield 76, 3) := by decide +kernel
theorem dX7_near_118 : decode cX7_near 118 = .ok (.iload 7, 2) := by decide +kernel
theorem dX7_near_120 : decode cX7_near 120 = .ok (.iaload, 1) := by decide +kernel
theorem dX7_near_121 : decode cX7_near 121 = .ok (.isub, 1) := by decide +kernel
theorem dX7_near_122 : decode cX7_near 122 = .ok (.invokestatic 193, 3) := by decide +kernel
theorem dX7_near_125 : decode cX7_near 125 = .ok (.iload_n 3, 1) := by decide +kernel
theorem dX7_near_126 : decode cX7_near 126 = .ok (.if_icmp .gt 6, 3) := by decide +kernel
theorem dX7_near_129 : decode cX7_near 129 = .ok (.iinc 4 1, 3) := by decide +kernel
theorem dX7_near_132 : decode cX7_near 132 = .ok (.iinc 5 1, 3) := by decide +kernel
theorem dX7_near_135 : decode cX7_near 135 = .ok (.goto (-87), 3) := by decide +kernel
theorem dX7_near_138 : decode cX7_near 138 = .ok (.iload 4, 2) := by decide +kernel
theorem dX7_near_140 : decode cX7_near 140 = .ok (.ireturn, 1) := by decide +kernel
theorem dX7_hurt_0 : decode cX7_hurt 0 = .ok (.aload_n 0, 1) := by decide +kernel
theorem dX7_hurt_1 : decode cX7_hurt 1 = .ok (.iload_n 1, 1) := by decide +kernel
theorem dX7_hurt_2 : decode cX7_hurt 2 = .ok (.invokevirtual 134, 3) := by decide +kernel
theorem dX7_hurt_5 : decode cX7_hurt 5 = .ok (.ifCond .eq 10, 3) := by decide +kernel
theorem dX7_hurt_8 : decode cX7_hurt 8 = .ok (.iload_n 2, 1) := by decide +kernel
theorem dX7_hurt_9 : decode cX7_hurt 9 = .ok (.invokestatic 97, 3) := by decide +kernel
theorem dX7_hurt_12 : decode cX7_hurt 12 = .ok (.ifCond .ne 10, 3) := by decide +kernel
theorem dX7_hurt_15 : decode cX7_hurt 15 = .ok (.aload_n 0, 1) := by decide +kernel
theorem dX7_hurt_16 : decode cX7_hurt 16 = .ok (.ldc 59, 2) := by decide +kernel
theorem dX7_hurt_18 : decode cX7_hurt 18 = .ok (.invokevirtual 60, 3) := by decide +kernel
theorem dX7_hurt_21 : decode cX7_hurt 21 = .ok (.ireturn, 1) := by decide +kernel
theorem dX7_hurt_22 : decode cX7_hurt 22 = .ok (.aload_n 0, 1) := by decide +kernel
theorem dX7_hurt_23 : decode cX7_hurt 23 = .ok (.getfield 19, 3) := by decide +kernel
theorem dX7_hurt_26 : decode cX7_hurt 26 = .ok (.iload_n 1, 1) := by decide +kernel
theorem dX7_hurt_27 : decode cX7_hurt 27 = .ok (.iconst 0, 1) := by decide +kernel
theorem dX7_hurt_28 : decode cX7_hurt 28 = .ok (.invokevirtual 137, 3) := by decide +kernel
theorem dX7_hurt_31 : decode cX7_hurt 31 = .ok (.istore_n 3, 1) := by decide +kernel
theorem dX7_hurt_32 : decode cX7_hurt 32 = .ok (.aload_n 0, 1) := by decide +kernel
theorem dX7_hurt_33 : decode cX7_hurt 33 = .ok (.getfield 10, 3) := by decide +kernel
theorem dX7_hurt_36 : decode cX7_hurt 36 = .ok (.iload_n 2, 1) := by decide +kernel
theorem dX7_hurt_37 : decode cX7_hurt 37 = .ok (.iload_n 3, 1) := by decide +kernel
theorem dX7_hurt_38 : decode cX7_hurt 38 = .ok (.iconst 1, 1) := by decide +kernel
theorem dX7_hurt_39 : decode cX7_hurt 39 = .ok (.if_icmp .eq 8, 3) := by decide +kernel
theorem dX7_hurt_42 : decode cX7_hurt 42 = .ok (.iload_n 3, 1) := by decide +kernel
theorem dX7_hurt_43 : decode cX7_hurt 43 = .ok (.iconst 3, 1) := by decide +kernel
theorem dX7_hurt_44 : decode cX7_hurt 44 = .ok (.if_icmp .ne 7, 3) := by decide +kernel
theorem dX7_hurt_47 : decode cX7_hurt 47 = .ok (.iconst 1, 1) := by decide +kernel
theorem dX7_hurt_48 : decode cX7_hurt 48 = .ok (.goto 4, 3) := by decide +kernel
theorem dX7_hurt_51 : decode cX7_hurt 51 = .ok (.iconst 0, 1) := by decide +kernel
theorem dX7_hurt_52 : decode cX7_hurt 52 = .ok (.invokevirtual 198, 3) := by decide +kernel
theorem dX7_hurt_55 : decode cX7_hurt 55 = .ok (.istore 4, 2) := by decide +kernel
theorem dX7_hurt_57 : decode cX7_hurt 57 = .ok (.iload 4, 2) := by decide +kernel
theorem dX7_hurt_59 : decode cX7_hurt 59 = .ok (.sipush 15001, 3) := by decide +kernel
theorem dX7_hurt_62 : decode cX7_hurt 62 = .ok (.if_icmp .ne 12, 3) := by decide +kernel
theorem dX7_hurt_65 : decode cX7_hurt 65 = .ok (.aload_n 0, 1) := by decide +kernel
theorem dX7_hurt_66 : decode cX7_hurt 66 = .ok (.ldc 165, 2) := by decide +kernel
theorem dX7_hurt_68 : decode cX7_hurt 68 = .ok (.invokevirtual 60, 3) := by decide +kernel
theorem dX7_hurt_71 : decode cX7_hurt 71 = .ok (.goto 5, 3) := by decide +kernel
theorem dX7_hurt_74 : decode cX7_hurt 74 = .ok (.iload 4, 2) := by decide +kernel
theorem dX7_hurt_76 : decode cX7_hurt 76 = .ok (.ireturn, 1) := by decide +kernel
theorem dX7_applicant_0 : decode cX7_applicant 0 = .ok (.iload_n 1, 1) := by decide +kernel
theorem dX7_applicant_1 : decode cX7_applicant 1 = .ok (.iconst 1, 1) := by decide +kernel
theorem dX7_applicant_2 : decode cX7_applicant 2 = .ok (.bipush 99, 2) := by decide +kernel
theorem dX7_applicant_4 : decode cX7_applicant 4 = .ok (.invokestatic 55, 3) := by decide +kernel
theorem dX7_applicant_7 : decode cX7_applicant 7 = .ok (.ifCond .ne 10, 3) := by decide +kernel
theorem dX7_applicant_10 : decode cX7_applicant 10 = .ok (.aload_n 0, 1) := by decide +kernel
theorem dX7_applicant_11 : decode cX7_applicant 11 = .ok (.ldc 59, 2) := by decide +kernel
theorem dX7_applicant_13 : decode cX7_applicant 13 = .ok (.invokevirtual 60, 3) := by decide +kernel
theorem dX7_applicant_16 : decode cX7_applicant 16 = .ok (.ireturn, 1) := by decide +kernel
theorem dX7_applicant_17 : decode cX7_applicant 17 = .ok (.aload_n 0, 1) := by decide +kernel
theorem dX7_applicant_18 : decode cX7_applicant 18 = .ok (.getfield 33, 3) := by decide +kernel
theorem dX7_applicant_21 : decode cX7_applicant 21 = .ok (.invokevirtual 202, 3) := by decide +kernel
theorem dX7_applicant_24 : decode cX7_applicant 24 = .ok (.istore_n 2, 1) := by decide +kernel
theorem dX7_applicant_25 : decode cX7_applicant 25 = .ok (.iload_n 2, 1) := by decide +kernel
theorem dX7_applicant_26 : decode cX7_applicant 26 = .ok (.bipush 12, 2) := by decide +kernel
theorem dX7_applicant_28 : decode cX7_applicant 28 = .ok (.if_icmp .lt 10, 3) := by decide +kernel
theorem dX7_applicant_31 : decode cX7_applicant 31 = .ok (.aload_n 0, 1) := by decide +kernel
theorem dX7_applicant_32 : decode cX7_applicant 32 = .ok (.ldc 75, 2) := by decide +kernel
theorem dX7_applicant_34 : decode cX7_applicant 34 = .ok (.invokevirtual 60, 3) := by decide +kernel
theorem dX7_applicant_37 : decode cX7_applicant 37 = .ok (.ireturn, 1) := by decide +kernel
theorem dX7_applicant_38 : decode cX7_applicant 38 = .ok (.aload_n 0, 1) := by decide +kernel
theorem dX7_applicant_39 : decode cX7_applicant 39 = .ok (.getfield 33, 3) := by decide +kernel
theorem dX7_applicant_42 : decode cX7_applicant 42 = .ok (.getfield 203, 3) := by decide +kernel
theorem dX7_applicant_45 : decode cX7_applicant 45 = .ok (.iload_n 2, 1) := by decide +kernel
theorem dX7_applicant_46 : decode cX7_applicant 46 = .ok (.iload_n 1, 1) := by decide +kernel
theorem dX7_applicant_47 : decode cX7_applicant 47 = .ok (.iastore, 1) := by decide +kernel
theorem dX7_applicant_48 : decode cX7_applicant 48 = .ok (.aload_n 0, 1) := by decide +kernel
theorem dX7_applicant_49 : decode cX7_applicant 49 = .ok (.aload_n 0, 1) := by decide +kernel
theorem dX7_applicant_50 : decode cX7_applicant 50 = .ok (.getfield 33, 3) := by decide +kernel
theorem dX7_applicant_53 : decode cX7_applicant 53 = .ok (.getfield 206, 3) := by decide +kernel
theorem dX7_applicant_56 : decode cX7_applicant 56 = .ok (.iconst 0, 1) := by decide +kernel
theorem dX7_applicant_57 : decode cX7_applicant 57 = .ok (.iload_n 2, 1) := by decide +kernel
theorem dX7_applicant_58 : decode cX7_applicant 58 = .ok (.iconst 1, 1) := by decide +kernel
theorem dX7_applicant_59 : decode cX7_applicant 59 = .ok (.iadd, 1) := by decide +kernel
theorem dX7_applicant_60 : decode cX7_applicant 60 = .ok (.invokevirtual 68, 3) := by decide +kernel
theorem dX7_applicant_63 : decode cX7_applicant 63 = .ok (.ireturn, 1) := by decide +kernel
theorem dX7_weigh_0 : decode cX7_weigh 0 = .ok (.aload_n 0, 1) := by decide +kernel
theorem dX7_weigh_1 : decode cX7_weigh 1 = .ok (.iload_n 1, 1) := by decide +kernel
theorem dX7_weigh_2 : decode cX7_weigh 2 = .ok (.invokevirtual 207, 3) := by decide +kernel
theorem dX7_weigh_5 : decode cX7_weigh 5 = .ok (.ifCond .eq 13, 3) := by decide +kernel
theorem dX7_weigh_8 : decode cX7_weigh 8 = .ok (.iload_n 2, 1) := by decide +kernel
theorem dX7_weigh_9 : decode cX7_weigh 9 = .ok (.iconst 1, 1) := by decide +kernel
theorem dX7_weigh_10 : decode cX7_weigh 10 = .ok (.bipush 99, 2) := by decide +kernel
theorem dX7_weigh_12 : decode cX7_weigh 12 = .ok (.invokestatic 55, 3) := by decide +kernel
theorem dX7_weigh_15 : decode cX7_weigh 15 = .ok (.ifCond .ne 10, 3) := by decide +kernel
theorem dX7_weigh_18 : decode cX7_weigh 18 = .ok (.aload_n 0, 1) := by decide +kernel
theorem dX7_weigh_19 : decode cX7_weigh 19 = .ok (.ldc 59, 2) := by decide +kernel
theorem dX7_weigh_21 : decode cX7_weigh 21 = .ok (.invokevirtual 60, 3) := by decide +kernel
theorem dX7_weigh_24 : decode cX7_weigh 24 = .ok (.ireturn, 1) := by decide +kernel
theorem dX7_weigh_25 : decode cX7_weigh 25 = .ok (.aload_n 0, 1) := by decide +kernel
theorem dX7_weigh_26 : decode cX7_weigh 26 = .ok (.aload_n 0, 1) := by decide +kernel
theorem dX7_weigh_27 : decode cX7_weigh 27 = .ok (.getfield 33, 3) := by decide +kernel
theorem dX7_weigh_30 : decode cX7_weigh 30 = .ok (.getfield 203, 3) := by decide +kernel
theorem dX7_weigh_33 : decode cX7_weigh 33 = .ok (.iload_n 1, 1) := by decide +kernel
theorem dX7_weigh_34 : decode cX7_weigh 34 = .ok (.iload_n 2, 1) := by decide +kernel
theorem dX7_weigh_35 : decode cX7_weigh 35 = .ok (.invokevirtual 68, 3) := by decide +kernel
theorem dX7_weigh_38 : decode cX7_weigh 38 = .ok (.ireturn, 1) := by decide +kernel
theorem dX7_chance_0 : decode cX7_chance 0 = .ok (.aload_n 0, 1) := by decide +kernel
theorem dX7_chance_1 : decode cX7_chance 1 = .ok (.iload_n 1, 1) := by decide +kernel
theorem dX7_chance_2 : decode cX7_chance 2 = .ok (.invokevirtual 207, 3) := by decide +kernel
theorem dX7_chance_5 : decode cX7_chance 5 = .ok (.ifCond .ne 10, 3) := by decide +kernel
theorem dX7_chance_8 : decode cX7_chance 8 = .ok (.aload_n 0, 1) := by decide +kernel
theorem dX7_chance_9 : decode cX7_chance 9 = .ok (.ldc 59, 2) := by decide +kernel
theorem dX7_chance_11 : decode cX7_chance 11 = .ok (.invokevirtual 60, 3) := by decide +kernel
theorem dX7_chance_14 : decode cX7_chance 14 = .ok (.ireturn, 1) := by decide +kernel
theorem dX7_chance_15 : decode cX7_chance 15 = .ok (.aload_n 0, 1) := by decide +kernel
theorem dX7_chance_16 : decode cX7_chance 16 = .ok (.getfield 33, 3) := by decide +kernel
theorem dX7_chance_19 : decode cX7_chance 19 = .ok (.getfield 203, 3) := by decide +kernel
theorem dX7_chance_22 : decode cX7_chance 22 = .ok (.iload_n 1, 1) := by decide +kernel
theorem dX7_chance_23 : decode cX7_chance 23 = .ok (.iaload, 1) := by decide +kernel
theorem dX7_chance_24 : decode cX7_chance 24 = .ok (.istore_n 3, 1) := by decide +kernel
theorem dX7_chance_25 : decode cX7_chance 25 = .ok (.aload_n 0, 1) := by decide +kernel
theorem dX7_chance_26 : decode cX7_chance 26 = .ok (.getfield 33, 3) := by decide +kernel
theorem dX7_chance_29 : decode cX7_chance 29 = .ok (.aload_n 0, 1) := by decide +kernel
theorem dX7_chance_30 : decode cX7_chance 30 = .ok (.getfield 33, 3) := by decide +kernel
theorem dX7_chance_33 : decode cX7_chance 33 = .ok (.invokevirtual 210, 3) := by decide +kernel
theorem dX7_chance_36 : decode cX7_chance 36 = .ok (.invokevirtual 213, 3) := by decide +kernel
theorem dX7_chance_39 : decode cX7_chance 39 = .ok (.istore 4, 2) := by decide +kernel
theorem dX7_chance_41 : decode cX7_chance 41 = .ok (.iload_n 3, 1) := by decide +kernel
theorem dX7_chance_42 : decode cX7_chance 42 = .ok (.iload 4, 2) := by decide +kernel
theorem dX7_chance_44 : decode cX7_chance 44 = .ok (.invokestatic 216, 3) := by decide +kernel
theorem dX7_chance_47 : decode cX7_chance 47 = .ok (.istore 5, 2) := by decide +kernel
theorem dX7_chance_49 : decode cX7_chance 49 = .ok (.iload_n 2, 1) := by decide +kernel
theorem dX7_chance_50 : decode cX7_chance 50 = .ok (.ifCond .eq 8, 3) := by decide +kernel
theorem dX7_chance_53 : decode cX7_chance 53 = .ok (.iload 4, 2) := by decide +kernel
theorem dX7_chance_55 : decode cX7_chance 55 = .ok (.goto 4, 3) := by decide +kernel
theorem dX7_chance_58 : decode cX7_chance 58 = .ok (.iload_n 3, 1) := by decide +kernel
theorem dX7_chance_59 : decode cX7_chance 59 = .ok (.iload 5, 2) := by decide +kernel
theorem dX7_chance_61 : decode cX7_chance 61 = .ok (.idiv, 1) := by decide +kernel
theorem dX7_chance_62 : decode cX7_chance 62 = .ok (.ireturn, 1) := by decide +kernel
theorem dX7_drawn_0 : decode cX7_drawn 0 = .ok (.aload_n 0, 1) := by decide +kernel
theorem dX7_drawn_1 : decode cX7_drawn 1 = .ok (.iload_n 2, 1) := by decide +kernel
theorem dX7_drawn_2 : decode cX7_drawn 2 = .ok (.invokevirtual 207, 3) := by decide +kernel
theorem dX7_drawn_5 : decode cX7_drawn 5 = .ok (.ifCond .ne 10, 3) := by decide +kernel
theorem dX7_drawn_8 : decode cX7_drawn 8 = .ok (.aload_n 0, 1) := by decide +kernel
theorem dX7_drawn_9 : decode cX7_drawn 9 = .ok (.ldc 59, 2) := by decide +kernel
theorem dX7_drawn_11 : decode cX7_drawn 11 = .ok (.invokevirtual 60, 3) := by decide +kernel
theorem dX7_drawn_14 : decode cX7_drawn 14 = .ok (.ireturn, 1) := by decide +kernel
theorem dX7_drawn_15 : decode cX7_drawn 15 = .ok (.aload_n 0, 1) := by decide +kernel
theorem dX7_drawn_16 : decode cX7_drawn 16 = .ok (.getfield 33, 3) := by decide +kernel
theorem dX7_drawn_19 : decode cX7_drawn 19 = .ok (.iload_n 1, 1) := by decide +kernel
theorem dX7_drawn_20 : decode cX7_drawn 20 = .ok (.invokevirtual 219, 3) := by decide +kernel
theorem dX7_drawn_23 : decode cX7_drawn 23 = .ok (.aload_n 0, 1) := by decide +kernel
theorem dX7_drawn_24 : decode cX7_drawn 24 = .ok (.getfield 33, 3) := by decide +kernel
theorem dX7_drawn_27 : decode cX7_drawn 27 = .ok (.getfield 222, 3) := by decide +kernel
theorem dX7_drawn_30 : decode cX7_drawn 30 = .ok (.iload_n 2, 1) := by decide +kernel
theorem dX7_drawn_31 : decode cX7_drawn 31 = .ok (.iaload, 1) := by decide +kernel
theorem dX7_drawn_32 : decode cX7_drawn 32 = .ok (.ireturn, 1) := by decide +kernel
theorem dX7_turn_0 : decode cX7_turn 0 = .ok (.aload_n 0, 1) := by decide +kernel
theorem dX7_turn_1 : decode cX7_turn 1 = .ok (.iload_n 2, 1) := by decide +kernel
theorem dX7_turn_2 : decode cX7_turn 2 = .ok (.invokevirtual 207, 3) := by decide +kernel
theorem dX7_turn_5 : decode cX7_turn 5 = .ok (.ifCond .ne 10, 3) := by decide +kernel
theorem dX7_turn_8 : decode cX7_turn 8 = .ok (.aload_n 0, 1) := by decide +kernel
theorem dX7_turn_9 : decode cX7_turn 9 = .ok (.ldc 59, 2) := by decide +kernel
theorem dX7_turn_11 : decode cX7_turn 11 = .ok (.invokevirtual 60, 3) := by decide +kernel
theorem dX7_turn_14 : decode cX7_turn 14 = .ok (.ireturn, 1) := by decide +kernel
theorem dX7_turn_15 : decode cX7_turn 15 = .ok (.aload_n 0, 1) := by decide +kernel
theorem dX7_turn_16 : decode cX7_turn 16 = .ok (.getfield 33, 3) := by decide +kernel
theorem dX7_turn_19 : decode cX7_turn 19 = .ok (.iload_n 1, 1) := by decide +kernel
theorem dX7_turn_20 : decode cX7_turn 20 = .ok (.invokevirtual 219, 3) := by decide +kernel
theorem dX7_turn_23 : decode cX7_turn 23 = .ok (.aload_n 0, 1) := by decide +kernel
theorem dX7_turn_24 : decode cX7_turn 24 = .ok (.getfield 33, 3) := by decide +kernel
theorem dX7_turn_27 : decode cX7_turn 27 = .ok (.iload_n 2, 1) := by decide +kernel
theorem dX7_turn_28 : decode cX7_turn 28 = .ok (.invokevirtual 225, 3) := by decide +kernel
theorem dX7_turn_31 : decode cX7_turn 31 = .ok (.ireturn, 1) := by decide +kernel
theorem dX7_sheet_0 : decode cX7_sheet 0 = .ok (.iload_n 1, 1) := by decide +kernel
theorem dX7_sheet_1 : decode cX7_sheet 1 = .ok (.invokestatic 228, 3) := by decide +kernel
theorem dX7_sheet_4 : decode cX7_sheet 4 = .ok (.ifCond .eq 25, 3) := by decide +kernel
theorem dX7_sheet_7 : decode cX7_sheet 7 = .ok (.iload_n 2, 1) := by decide +kernel
theorem dX7_sheet_8 : decode cX7_sheet 8 = .ok (.ifCond .eq 28, 3) := by decide +kernel
theorem dX7_sheet_11 : decode cX7_sheet 11 = .ok (.iload_n 2, 1) := by decide +kernel
theorem dX7_sheet_12 : decode cX7_sheet 12 = .ok (.bipush 8, 2) := by decide +kernel
theorem dX7_sheet_14 : decode cX7_sheet 14 = .ok (.if_icmp .eq 22, 3) := by decide +kernel
theorem dX7_sheet_17 : decode cX7_sheet 17 = .ok (.iload_n 2, 1) := by decide +kernel
theorem dX7_sheet_18 : decode cX7_sheet 18 = .ok (.bipush 16, 2) := by decide +kernel
theorem dX7_sheet_20 : decode cX7_sheet 20 = .ok (.if_icmp .eq 16, 3) := by decide +kernel
theorem dX7_sheet_23 : decode cX7_sheet 23 = .ok (.iload_n 2, 1) := by decide +kernel
theorem dX7_sheet_24 : decode cX7_sheet 24 = .ok (.bipush 32, 2) := by decide +kernel
theorem dX7_sheet_26 : decode cX7_sheet 26 = .ok (.if_icmp .eq 10, 3) := by decide +kernel
theorem dX7_sheet_29 : decode cX7_sheet 29 = .ok (.aload_n 0, 1) := by decide +kernel
theorem dX7_sheet_30 : decode cX7_sheet 30 = .ok (.ldc 59, 2) := by decide +kernel
theorem dX7_sheet_32 : decode cX7_sheet 32 = .ok (.invokevirtual 60, 3) := by decide +kernel
theorem dX7_sheet_35 : decode cX7_sheet 35 = .ok (.ireturn, 1) := by decide +kernel
theorem dX7_sheet_36 : decode cX7_sheet 36 = .ok (.iload_n 3, 1) := by decide +kernel
theorem dX7_sheet_37 : decode cX7_sheet 37 = .ok (.ifCond .ge 10, 3) := by decide +kernel
theorem dX7_sheet_40 : decode cX7_sheet 40 = .ok (.aload_n 0, 1) := by decide +kernel
theorem dX7_sheet_41 : decode cX7_sheet 41 = .ok (.ldc 87, 2) := by decide +kernel
theorem dX7_sheet_43 : decode cX7_sheet 43 = .ok (.invokevirtual 60, 3) := by decide +kernel
theorem dX7_sheet_46 : decode cX7_sheet 46 = .ok (.ireturn, 1) := by decide +kernel
theorem dX7_sheet_47 : decode cX7_sheet 47 = .ok (.iload_n 3, 1) := by decide +kernel
theorem dX7_sheet_48 : decode cX7_sheet 48 = .ok (.bipush 40, 2) := by decide +kernel
theorem dX7_sheet_50 : decode cX7_sheet 50 = .ok (.if_icmp .le 10, 3) := by decide +kernel
theorem dX7_sheet_53 : decode cX7_sheet 53 = .ok (.aload_n 0, 1) := by decide +kernel
theorem dX7_sheet_54 : decode cX7_sheet 54 = .ok (.ldc 59, 2) := by decide +kernel
theorem dX7_sheet_56 : decode cX7_sheet 56 = .ok (.invokevirtual 60, 3) := by decide +kernel
theorem dX7_sheet_59 : decode cX7_sheet 59 = .ok (.ireturn, 1) := by decide +kernel
theorem dX7_sheet_60 : decode cX7_sheet 60 = .ok (.aload_n 0, 1) := by decide +kernel
theorem dX7_sheet_61 : decode cX7_sheet 61 = .ok (.getfield 46, 3) := by decide +kernel
theorem dX7_sheet_64 : decode cX7_sheet 64 = .ok (.iload_n 1, 1) := by decide +kernel
theorem dX7_sheet_65 : decode cX7_sheet 65 = .ok (.aaload, 1) := by decide +kernel
theorem dX7_sheet_66 : decode cX7_sheet 66 = .ok (.iload_n 2, 1) := by decide +kernel
theorem dX7_sheet_67 : decode cX7_sheet 67 = .ok (.iload_n 3, 1) := by decide +kernel
theorem dX7_sheet_68 : decode cX7_sheet 68 = .ok (.invokevirtual 231, 3) := by decide +kernel
theorem dX7_sheet_71 : decode cX7_sheet 71 = .ok (.ireturn, 1) := by decide +kernel
theorem dX7_put_0 : decode cX7_put 0 = .ok (.iload_n 1, 1) := by decide +kernel
theorem dX7_put_1 : decode cX7_put 1 = .ok (.invokestatic 228, 3) := by decide +kernel
theorem dX7_put_4 : decode cX7_put 4 = .ok (.ifCond .ne 10, 3) := by decide +kernel
theorem dX7_put_7 : decode cX7_put 7 = .ok (.aload_n 0, 1) := by decide +kernel
theorem dX7_put_8 : decode cX7_put 8 = .ok (.ldc 59, 2) := by decide +kernel
theorem dX7_put_10 : decode cX7_put 10 = .ok (.invokevirtual 60, 3) := by decide +kernel
theorem dX7_put_13 : decode cX7_put 13 = .ok (.ireturn, 1) := by decide +kernel
theorem dX7_put_14 : decode cX7_put 14 = .ok (.aload_n 0, 1) := by decide +kernel
theorem dX7_put_15 : decode cX7_put 15 = .ok (.getfield 46, 3) := by decide +kernel
theorem dX7_put_18 : decode cX7_put 18 = .ok (.iload_n 1, 1) := by decide +kernel
theorem dX7_put_19 : decode cX7_put 19 = .ok (.aaload, 1) := by decide +kernel
theorem dX7_put_20 : decode cX7_put 20 = .ok (.astore 4, 2) := by decide +kernel
theorem dX7_put_22 : decode cX7_put 22 = .ok (.aload 4, 2) := by decide +kernel
theorem dX7_put_24 : decode cX7_put 24 = .ok (.invokevirtual 234, 3) := by decide +kernel
theorem dX7_put_27 : decode cX7_put 27 = .ok (.ifCond .eq 10, 3) := by decide +kernel
theorem dX7_put_30 : decode cX7_put 30 = .ok (.aload_n 0, 1) := by decide +kernel
theorem dX7_put_31 : decode cX7_put 31 = .ok (.ldc 238, 2) := by decide +kernel
theorem dX7_put_33 : decode cX7_put 33 = .ok (.invokevirtual 60, 3) := by decide +kernel
theorem dX7_put_36 : decode cX7_put 36 = .ok (.ireturn, 1) := by decide +kernel
theorem dX7_put_37 : decode cX7_put 37 = .ok (.iload_n 2, 1) := by decide +kernel
theorem dX7_put_38 : decode cX7_put 38 = .ok (.iconst 0, 1) := by decide +kernel
theorem dX7_put_39 : decode cX7_put 39 = .ok (.aload 4, 2) := by decide +kernel
theorem dX7_put_41 : decode cX7_put 41 = .ok (.getfield 239, 3) := by decide +kernel
theorem dX7_put_44 : decode cX7_put 44 = .ok (.iconst 1, 1) := by decide +kernel
theorem dX7_put_45 : decode cX7_put 45 = .ok (.isub, 1) := by decide +kernel
theorem dX7_put_46 : decode cX7_put 46 = .ok (.invokestatic 55, 3) := by decide +kernel
theorem dX7_put_49 : decode cX7_put 49 = .ok (.ifCond .ne 10, 3) := by decide +kernel
theorem dX7_put_52 : decode cX7_put 52 = .ok (.aload_n 0, 1) := by decide +kernel
theorem dX7_put_53 : decode cX7_put 53 = .ok (.ldc 59, 2) := by decide +kernel
theorem dX7_put_55 : decode cX7_put 55 = .ok (.invokevirtual 60, 3) := by decide +kernel
theorem dX7_put_58 : decode cX7_put 58 = .ok (.ireturn, 1) := by decide +kernel
theorem dX7_put_59 : decode cX7_put 59 = .ok (.aload 4, 2) := by decide +kernel
theorem dX7_put_61 : decode cX7_put 61 = .ok (.getfield 241, 3) := by decide +kernel
theorem dX7_put_64 : decode cX7_put 64 = .ok (.iload_n 2, 1) := by decide +kernel
theorem dX7_put_65 : decode cX7_put 65 = .ok (.aload 4, 2) := by decide +kernel
theorem dX7_put_67 : decode cX7_put 67 = .ok (.iload_n 3, 1) := by decide +kernel
theorem dX7_put_68 : decode cX7_put 68 = .ok (.invokevirtual 244, 3) := by decide +kernel
theorem dX7_put_71 : decode cX7_put 71 = .ok (.iastore, 1) := by decide +kernel
theorem dX7_put_72 : decode cX7_put 72 = .ok (.iconst 0, 1) := by decide +kernel
theorem dX7_put_73 : decode cX7_put 73 = .ok (.ireturn, 1) := by decide +kernel
theorem dX7_copy_0 : decode cX7_copy 0 = .ok (.iload_n 1, 1) := by decide +kernel
theorem dX7_copy_1 : decode cX7_copy 1 = .ok (.invokestatic 228, 3) := by decide +kernel
theorem dX7_copy_4 : decode cX7_copy 4 = .ok (.ifCond .eq 10, 3) := by decide +kernel
theorem dX7_copy_7 : decode cX7_copy 7 = .ok (.iload_n 3, 1) := by decide +kernel
theorem dX7_copy_8 : decode cX7_copy 8 = .ok (.invokestatic 228, 3) := by decide +kernel
theorem dX7_copy_11 : decode cX7_copy 11 = .ok (.ifCond .ne 10, 3) := by decide +kernel
theorem dX7_copy_14 : decode cX7_copy 14 = .ok (.aload_n 0, 1) := by decide +kernel
theorem dX7_copy_15 : decode cX7_copy 15 = .ok (.ldc 59, 2) := by decide +kernel
theorem dX7_copy_17 : decode cX7_copy 17 = .ok (.invokevirtual 60, 3) := by decide +kernel
theorem dX7_copy_20 : decode cX7_copy 20 = .ok (.ireturn, 1) := by decide +kernel
theorem dX7_copy_21 : decode cX7_copy 21 = .ok (.aload_n 0, 1) := by decide +kernel
theorem dX7_copy_22 : decode cX7_copy 22 = .ok (.getfield 46, 3) := by decide +kernel
theorem dX7_copy_25 : decode cX7_copy 25 = .ok (.iload_n 1, 1) := by decide +kernel
theorem dX7_copy_26 : decode cX7_copy 26 = .ok (.aaload, 1) := by decide +kernel
theorem dX7_copy_27 : decode cX7_copy 27 = .ok (.astore 6, 2) := by decide +kernel
theorem dX7_copy_29 : decode cX7_copy 29 = .ok (.aload_n 0, 1) := by decide +kernel
theorem dX7_copy_30 : decode cX7_copy 30 = .ok (.getfield 46, 3) := by decide +kernel
theorem dX7_copy_33 : decode cX7_copy 33 = .ok (.iload_n 3, 1) := by decide +kernel
theorem dX7_copy_34 : decode cX7_copy 34 = .ok (.aaload, 1) := by decide +kernel
theorem dX7_copy_35 : decode cX7_copy 35 = .ok (.astore 7, 2) := by decide +kernel
theorem dX7_copy_37 : decode cX7_copy 37 = .ok (.aload 6, 2) := by decide +kernel
theorem dX7_copy_39 : decode cX7_copy 39 = .ok (.invokevirtual 234, 3) := by decide +kernel
theorem dX7_copy_42 : decode cX7_copy 42 = .ok (.ifCond .ne 11, 3) := by decide +kernel
theorem dX7_copy_45 : decode cX7_copy 45 = .ok (.aload 7, 2) := by decide +kernel
theorem dX7_copy_47 : decode cX7_copy 47 = .ok (.invokevirtual 234, 3) := by decide +kernel
theorem dX7_copy_50 : decode cX7_copy 50 = .ok (.ifCond .eq 10, 3) := by decide +kernel
theorem dX7_copy_53 : decode cX7_copy 53 = .ok (.aload_n 0, 1) := by decide +kernel
theorem dX7_copy_54 : decode cX7_copy 54 = .ok (.ldc 238, 2) := by decide +kernel
theorem dX7_copy_56 : decode cX7_copy 56 = .ok (.invokevirtual 60, 3) := by decide +kernel
theorem dX7_copy_59 : decode cX7_copy 59 = .ok (.ireturn, 1) := by decide +kernel
theorem dX7_copy_60 : decode cX7_copy 60 = .ok (.aload 6, 2) := by decide +kernel
theorem dX7_copy_62 : decode cX7_copy 62 = .ok (.getfield 247, 3) := by decide +kernel
theorem dX7_copy_65 : decode cX7_copy 65 = .ok (.aload 7, 2) := by decide +kernel
theorem dX7_copy_67 : decode cX7_copy 67 = .ok (.getfield 247, 3) := by decide +kernel
theorem dX7_copy_70 : decode cX7_copy 70 = .ok (.if_icmp .eq 10, 3) := by decide +kernel
theorem dX7_copy_73 : decode cX7_copy 73 = .ok (.aload_n 0, 1) := by decide +kernel
theorem dX7_copy_74 : decode cX7_copy 74 = .ok (.ldc 144, 2) := by decide +kernel
theorem dX7_copy_76 : decode cX7_copy 76 = .ok (.invokevirtual 60, 3) := by decide +kernel
theorem dX7_copy_79 : decode cX7_copy 79 = .ok (.ireturn, 1) := by decide +kernel
theorem dX7_copy_80 : decode cX7_copy 80 = .ok (.aload 6, 2) := by decide +kernel
theorem dX7_copy_82 : decode cX7_copy 82 = .ok (.iload_n 2, 1) := by decide +kernel
theorem dX7_copy_83 : decode cX7_copy 83 = .ok (.iload 5, 2) := by decide +kernel
theorem dX7_copy_85 : decode cX7_copy 85 = .ok (.invokevirtual 250, 3) := by decide +kernel
theorem dX7_copy_88 : decode cX7_copy 88 = .ok (.ifCond .eq 15, 3) := by decide +kernel
theorem dX7_copy_91 : decode cX7_copy 91 = .ok (.aload 7, 2) := by decide +kernel
theorem dX7_copy_93 : decode cX7_copy 93 = .ok (.iload 4, 2) := by decide +kernel
theorem dX7_copy_95 : decode cX7_copy 95 = .ok (.iload 5, 2) := by decide +kernel
theorem dX7_copy_97 : decode cX7_copy 97 = .ok (.invokevirtual 250, 3) := by decide +kernel
theorem dX7_copy_100 : decode cX7_copy 100 = .ok (.ifCond .ne 10, 3) := by decide +kernel
theorem dX7_copy_103 : decode cX7_copy 103 = .ok (.aload_n 0, 1) := by decide +kernel
theorem dX7_copy_104 : decode cX7_copy 104 = .ok (.ldc 59, 2) := by decide +kernel
theorem dX7_copy_106 : decode cX7_copy 106 = .ok (.invokevirtual 60, 3) := by decide +kernel
theorem dX7_copy_109 : decode cX7_copy 109 = .ok (.ireturn, 1) := by decide +kernel
theorem dX7_copy_110 : decode cX7_copy 110 = .ok (.aload 6, 2) := by decide +kernel
theorem dX7_copy_112 : decode cX7_copy 112 = .ok (.getfield 241, 3) := by decide +kernel
theorem dX7_copy_115 : decode cX7_copy 115 = .ok (.iload_n 2, 1) := by decide +kernel
theorem dX7_copy_116 : decode cX7_copy 116 = .ok (.aload 7, 2) := by decide +kernel
theorem dX7_copy_118 : decode cX7_copy 118 = .ok (.getfield 241, 3) := by decide +kernel
theorem dX7_copy_121 : decode cX7_copy 121 = .ok (.iload 4, 2) := by decide +kernel
theorem dX7_copy_123 : decode cX7_copy 123 = .ok (.iload 5, 2) := by decide +kernel
theorem dX7_copy_125 : decode cX7_copy 125 = .ok (.invokestatic 254, 3) := by decide +kernel
theorem dX7_copy_128 : decode cX7_copy 128 = .ok (.iload 5, 2) := by decide +kernel
theorem dX7_copy_130 : decode cX7_copy 130 = .ok (.ireturn, 1) := by decide +kernel
theorem dX7_let_0 : decode cX7_let 0 = .ok (.iload_n 1, 1) := by decide +kernel
theorem dX7_let_1 : decode cX7_let 1 = .ok (.invokestatic 103, 3) := by decide +kernel
theorem dX7_let_4 : decode cX7_let 4 = .ok (.ifCond .eq 10, 3) := by decide +kernel
theorem dX7_let_7 : decode cX7_let 7 = .ok (.iload_n 2, 1) := by decide +kernel
theorem dX7_let_8 : decode cX7_let 8 = .ok (.invokestatic 228, 3) := by decide +kernel
theorem dX7_let_11 : decode cX7_let 11 = .ok (.ifCond .ne 10, 3) := by decide +kernel
theorem dX7_let_14 : decode cX7_let 14 = .ok (.aload_n 0, 1) := by decide +kernel
theorem dX7_let_15 : decode cX7_let 15 = .ok (.ldc 59, 2) := by decide +kernel
theorem dX7_let_17 : decode cX7_let 17 = .ok (.invokevirtual 60, 3) := by decide +kernel
theorem dX7_let_20 : decode cX7_let 20 = .ok (.ireturn, 1) := by decide +kernel
theorem dX7_let_21 : decode cX7_let 21 = .ok (.aload_n 0, 1) := by decide +kernel
theorem dX7_let_22 : decode cX7_let 22 = .ok (.getfield 46, 3) := by decide +kernel
theorem dX7_let_25 : decode cX7_let 25 = .ok (.iload_n 2, 1) := by decide +kernel
theorem dX7_let_26 : decode cX7_let 26 = .ok (.aaload, 1) := by decide +kernel
theorem dX7_let_27 : decode cX7_let 27 = .ok (.astore_n 3, 1) := by decide +kernel
theorem dX7_let_28 : decode cX7_let 28 = .ok (.aload_n 3, 1) := by decide +kernel
theorem dX7_let_29 : decode cX7_let 29 = .ok (.invokevirtual 234, 3) := by decide +kernel
theorem dX7_let_32 : decode cX7_let 32 = .ok (.ifCond .eq 10, 3) := by decide +kernel
theorem dX7_let_35 : decode cX7_let 35 = .ok (.aload_n 0, 1) := by decide +kernel
theorem dX7_let_36 : decode cX7_let 36 = .ok (.ldc 238, 2) := by decide +kernel
theorem dX7_let_38 : decode cX7_let 38 = .ok (.invokevirtual 60, 3) := by decide +kernel
theorem dX7_let_41 : decode cX7_let 41 = .ok (.ireturn, 1) := by decide +kernel
theorem dX7_let_42 : decode cX7_let 42 = .ok (.iload_n 1, 1) := by decide +kernel
theorem dX7_let_43 : decode cX7_let 43 = .ok (.iconst 4, 1) := by decide +kernel
theorem dX7_let_44 : decode cX7_let 44 = .ok (.imul, 1) := by decide +kernel
theorem dX7_let_45 : decode cX7_let 45 = .ok (.istore 4, 2) := by decide +kernel
theorem dX7_let_47 : decode cX7_let 47 = .ok (.aload_n 3, 1) := by decide +kernel
theorem dX7_let_48 : decode cX7_let 48 = .ok (.getfield 239, 3) := by decide +kernel
theorem dX7_let_51 : decode cX7_let 51 = .ok (.bipush 120, 2) := by decide +kernel
theorem dX7_let_53 : decode cX7_let 53 = .ok (.iload 4, 2) := by decide +kernel
theorem dX7_let_55 : decode cX7_let 55 = .ok (.isub, 1) := by decide +kernel
theorem dX7_let_56 : decode cX7_let 56 = .ok (.if_icmp .le 10, 3) := by decide +kernel
theorem dX7_let_59 : decode cX7_let 59 = .ok (.aload_n 0, 1) := by decide +kernel
theorem dX7_let_60 : decode cX7_let 60 = .ok (.ldc 87, 2) := by decide +kernel
theorem dX7_let_62 : decode cX7_let 62 = .ok (.invokevirtual 60, 3) := by decide +kernel
theorem dX7_let_65 : decode cX7_let 65 = .ok (.ireturn, 1) := by decide +kernel
theorem dX7_let_66 : decode cX7_let 66 = .ok (.iconst 0, 1) := by decide +kernel
theorem dX7_let_67 : decode cX7_let 67 = .ok (.istore 5, 2) := by decide +kernel
theorem dX7_let_69 : decode cX7_let 69 = .ok (.iload 5, 2) := by decide +kernel
theorem dX7_let_71 : decode cX7_let 71 = .ok (.aload_n 3, 1) := by decide +kernel
theorem dX7_let_72 : decode cX7_let 72 = .ok (.getfield 239, 3) := by decide +kernel
theorem dX7_let_75 : decode cX7_let 75 = .ok (.if_icmp .ge 29, 3) := by decide +kernel
theorem dX7_let_78 : decode cX7_let 78 = .ok (.aload_n 3, 1) := by decide +kernel
theorem dX7_let_79 : decode cX7_let 79 = .ok (.getfield 241, 3) := by decide +kernel
theorem dX7_let_82 : decode cX7_let 82 = .ok (.iload 5, 2) := by decide +kernel
theorem dX7_let_84 : decode cX7_let 84 = .ok (.iaload, 1) := by decide +kernel
theorem dX7_let_85 : decode cX7_let 85 = .ok (.invokestatic 83, 3) := by decide +kernel
theorem dX7_let_88 : decode cX7_let 88 = .ok (.ifCond .ne 10, 3) := by decide +kernel
theorem dX7_let_91 : decode cX7_let 91 = .ok (.aload_n 0, 1) := by decide +kernel
theorem dX7_let_92 : decode cX7_let 92 = .ok (.ldc 59, 2) := by decide +kernel
theorem dX7_let_94 : decode cX7_let 94 = .ok (.invokevirtual 60, 3) := by decide +kernel
theorem dX7_let_97 : decode cX7_let 97 = .ok (.ireturn, 1) := by decide +kernel
theorem dX7_let_98 : decode cX7_let 98 = .ok (.iinc 5 1, 3) := by decide +kernel
theorem dX7_let_101 : decode cX7_let 101 = .ok (.goto (-32), 3) := by decide +kernel
theorem dX7_let_104 : decode cX7_let 104 = .ok (.aload_n 0, 1) := by decide +kernel
theorem dX7_let_105 : decode cX7_let 105 = .ok (.getfield 40, 3) := by decide +kernel
theorem dX7_let_108 : decode cX7_let 108 = .ok (.aload_n 0, 1) := by decide +kernel
theorem dX7_let_109 : decode cX7_let 109 = .ok (.getfield 10, 3) := by decide +kernel
theorem dX7_let_112 : decode cX7_let 112 = .ok (.getfield 106, 3) := by decide +kernel
theorem dX7_let_115 : decode cX7_let 115 = .ok (.iload 4, 2) := by decide +kernel
theorem dX7_let_117 : decode cX7_let 117 = .ok (.aload_n 3, 1) := by decide +kernel
theorem dX7_let_118 : decode cX7_let 118 = .ok (.getfield 239, 3) := by decide +kernel
theorem dX7_let_121 : decode cX7_let 121 = .ok (.invokevirtual 260, 3) := by decide +kernel
theorem dX7_let_124 : decode cX7_let 124 = .ok (.aload_n 3, 1) := by decide +kernel
theorem dX7_let_125 : decode cX7_let 125 = .ok (.getfield 241, 3) := by decide +kernel
theorem dX7_let_128 : decode cX7_let 128 = .ok (.iconst 0, 1) := by decide +kernel
theorem dX7_let_129 : decode cX7_let 129 = .ok (.aload_n 0, 1) := by decide +kernel
theorem dX7_let_130 : decode cX7_let 130 = .ok (.getfield 10, 3) := by decide +kernel
theorem dX7_let_133 : decode cX7_let 133 = .ok (.getfield 106, 3) := by decide +kernel
theorem dX7_let_136 : decode cX7_let 136 = .ok (.iload 4, 2) := by decide +kernel
theorem dX7_let_138 : decode cX7_let 138 = .ok (.aload_n 3, 1) := by decide +kernel
theorem dX7_let_139 : decode cX7_let 139 = .ok (.getfield 239, 3) := by decide +kernel
theorem dX7_let_142 : decode cX7_let 142 = .ok (.invokestatic 254, 3) := by decide +kernel
theorem dX7_let_145 : decode cX7_let 145 = .ok (.aload_n 3, 1) := by decide +kernel
theorem dX7_let_146 : decode cX7_let 146 = .ok (.getfield 239, 3) := by decide +kernel
theorem dX7_let_149 : decode cX7_let 149 = .ok (.ireturn, 1) := by decide +kernel
theorem dX7_undo_0 : decode cX7_undo 0 = .ok (.aload_n 0, 1) := by decide +kernel
theorem dX7_undo_1 : decode cX7_undo 1 = .ok (.getfield 40, 3) := by decide +kernel
theorem dX7_undo_4 : decode cX7_undo 4 = .ok (.invokevirtual 264, 3) := by decide +kernel
theorem dX7_undo_7 : decode cX7_undo 7 = .ok (.ifCond .eq 13, 3) := by decide +kernel
theorem dX7_undo_10 : decode cX7_undo 10 = .ok (.aload_n 0, 1) := by decide +kernel
theorem dX7_undo_11 : decode cX7_undo 11 = .ok (.getfield 40, 3) := by decide +kernel
theorem dX7_undo_14 : decode cX7_undo 14 = .ok (.getfield 267, 3) := by decide +kernel
theorem dX7_undo_17 : decode cX7_undo 17 = .ok (.goto 9, 3) := by decide +kernel
theorem dX7_undo_20 : decode cX7_undo 20 = .ok (.aload_n 0, 1) := by decide +kernel
theorem dX7_undo_21 : decode cX7_undo 21 = .ok (.ldc 165, 2) := by decide +kernel
theorem dX7_undo_23 : decode cX7_undo 23 = .ok (.invokevirtual 60, 3) := by decide +kernel
theorem dX7_undo_26 : decode cX7_undo 26 = .ok (.ireturn, 1) := by decide +kernel
theorem dX7_all_0 : decode cX7_all 0 = .ok (.iload_n 1, 1) := by decide +kernel
theorem dX7_all_1 : decode cX7_all 1 = .ok (.tableswitch 90 0 5 #[39, 49, 59, 69, 77, 85], 39) := by decide +kernel
theorem dX7_all_40 : decode cX7_all 40 = .ok (.aload_n 0, 1) := by decide +kernel
theorem dX7_all_41 : decode cX7_all 41 = .ok (.getfield 10, 3) := by decide +kernel
