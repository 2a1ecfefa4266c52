theorem dX8_noNights_3 : decode cX8_noNights 3 = .ok (.bipush 30, 2) := by decide +kernel
theorem dX8_noNights_5 : decode cX8_noNights 5 = .ok (.if_icmp .ge 25, 3) := by decide +kernel
theorem dX8_noNights_8 : decode cX8_noNights 8 = .ok (.aload_n 0, 1) := by decide +kernel
theorem dX8_noNights_9 : decode cX8_noNights 9 = .ok (.getfield 7, 3) := by decide +kernel
theorem dX8_noNights_12 : decode cX8_noNights 12 = .ok (.sipush 244, 3) := by decide +kernel
theorem dX8_noNights_15 : decode cX8_noNights 15 = .ok (.bipush 30, 2) := by decide +kernel
theorem dX8_noNights_17 : decode cX8_noNights 17 = .ok (.iload_n 1, 1) := by decide +kernel
theorem dX8_noNights_18 : decode cX8_noNights 18 = .ok (.imul, 1) := by decide +kernel
theorem dX8_noNights_19 : decode cX8_noNights 19 = .ok (.iadd, 1) := by decide +kernel
theorem dX8_noNights_20 : decode cX8_noNights 20 = .ok (.iload_n 2, 1) := by decide +kernel
theorem dX8_noNights_21 : decode cX8_noNights 21 = .ok (.iadd, 1) := by decide +kernel
theorem dX8_noNights_22 : decode cX8_noNights 22 = .ok (.iconst (-1), 1) := by decide +kernel
theorem dX8_noNights_23 : decode cX8_noNights 23 = .ok (.iastore, 1) := by decide +kernel
theorem dX8_noNights_24 : decode cX8_noNights 24 = .ok (.iinc 2 1, 3) := by decide +kernel
theorem dX8_noNights_27 : decode cX8_noNights 27 = .ok (.goto (-25), 3) := by decide +kernel
theorem dX8_noNights_30 : decode cX8_noNights 30 = .ok (.return_, 1) := by decide +kernel
theorem dX8_told_0 : decode cX8_told 0 = .ok (.aload_n 0, 1) := by decide +kernel
theorem dX8_told_1 : decode cX8_told 1 = .ok (.getfield 7, 3) := by decide +kernel
theorem dX8_told_4 : decode cX8_told 4 = .ok (.sipush 194, 3) := by decide +kernel
theorem dX8_told_7 : decode cX8_told 7 = .ok (.iconst 5, 1) := by decide +kernel
theorem dX8_told_8 : decode cX8_told 8 = .ok (.iload_n 1, 1) := by decide +kernel
theorem dX8_told_9 : decode cX8_told 9 = .ok (.imul, 1) := by decide +kernel
theorem dX8_told_10 : decode cX8_told 10 = .ok (.iadd, 1) := by decide +kernel
theorem dX8_told_11 : decode cX8_told 11 = .ok (.iload_n 2, 1) := by decide +kernel
theorem dX8_told_12 : decode cX8_told 12 = .ok (.iadd, 1) := by decide +kernel
theorem dX8_told_13 : decode cX8_told 13 = .ok (.iaload, 1) := by decide +kernel
theorem dX8_told_14 : decode cX8_told 14 = .ok (.ireturn, 1) := by decide +kernel
theorem dX8_as_0 : decode cX8_as 0 = .ok (.aload_n 0, 1) := by decide +kernel
theorem dX8_as_1 : decode cX8_as 1 = .ok (.iload_n 1, 1) := by decide +kernel
theorem dX8_as_2 : decode cX8_as 2 = .ok (.invokevirtual 91, 3) := by decide +kernel
theorem dX8_as_5 : decode cX8_as 5 = .ok (.ifCond .eq 12, 3) := by decide +kernel
theorem dX8_as_8 : decode cX8_as 8 = .ok (.iload_n 2, 1) := by decide +kernel
theorem dX8_as_9 : decode cX8_as 9 = .ok (.iconst 0, 1) := by decide +kernel
theorem dX8_as_10 : decode cX8_as 10 = .ok (.iconst 3, 1) := by decide +kernel
theorem dX8_as_11 : decode cX8_as 11 = .ok (.invokestatic 48, 3) := by decide +kernel
theorem dX8_as_14 : decode cX8_as 14 = .ok (.ifCond .ne 10, 3) := by decide +kernel
theorem dX8_as_17 : decode cX8_as 17 = .ok (.aload_n 0, 1) := by decide +kernel
theorem dX8_as_18 : decode cX8_as 18 = .ok (.ldc 67, 2) := by decide +kernel
theorem dX8_as_20 : decode cX8_as 20 = .ok (.invokevirtual 56, 3) := by decide +kernel
theorem dX8_as_23 : decode cX8_as 23 = .ok (.ireturn, 1) := by decide +kernel
theorem dX8_as_24 : decode cX8_as 24 = .ok (.aload_n 0, 1) := by decide +kernel
theorem dX8_as_25 : decode cX8_as 25 = .ok (.iload_n 1, 1) := by decide +kernel
theorem dX8_as_26 : decode cX8_as 26 = .ok (.iconst 0, 1) := by decide +kernel
theorem dX8_as_27 : decode cX8_as 27 = .ok (.invokevirtual 94, 3) := by decide +kernel
theorem dX8_as_30 : decode cX8_as 30 = .ok (.istore_n 3, 1) := by decide +kernel
theorem dX8_as_31 : decode cX8_as 31 = .ok (.iload_n 2, 1) := by decide +kernel
theorem dX8_as_32 : decode cX8_as 32 = .ok (.ifCond .eq 18, 3) := by decide +kernel
theorem dX8_as_35 : decode cX8_as 35 = .ok (.iload_n 2, 1) := by decide +kernel
theorem dX8_as_36 : decode cX8_as 36 = .ok (.iload_n 3, 1) := by decide +kernel
theorem dX8_as_37 : decode cX8_as 37 = .ok (.if_icmp .eq 13, 3) := by decide +kernel
theorem dX8_as_40 : decode cX8_as 40 = .ok (.iload_n 2, 1) := by decide +kernel
theorem dX8_as_41 : decode cX8_as 41 = .ok (.iconst 1, 1) := by decide +kernel
theorem dX8_as_42 : decode cX8_as 42 = .ok (.if_icmp .ne 12, 3) := by decide +kernel
theorem dX8_as_45 : decode cX8_as 45 = .ok (.iload_n 3, 1) := by decide +kernel
theorem dX8_as_46 : decode cX8_as 46 = .ok (.iconst 3, 1) := by decide +kernel
theorem dX8_as_47 : decode cX8_as 47 = .ok (.if_icmp .ne 7, 3) := by decide +kernel
theorem dX8_as_50 : decode cX8_as 50 = .ok (.iload_n 1, 1) := by decide +kernel
theorem dX8_as_51 : decode cX8_as 51 = .ok (.goto 9, 3) := by decide +kernel
theorem dX8_as_54 : decode cX8_as 54 = .ok (.aload_n 0, 1) := by decide +kernel
theorem dX8_as_55 : decode cX8_as 55 = .ok (.ldc 97, 2) := by decide +kernel
theorem dX8_as_57 : decode cX8_as 57 = .ok (.invokevirtual 56, 3) := by decide +kernel
theorem dX8_as_60 : decode cX8_as 60 = .ok (.ireturn, 1) := by decide +kernel
theorem dX8_of_0 : decode cX8_of 0 = .ok (.aload_n 0, 1) := by decide +kernel
theorem dX8_of_1 : decode cX8_of 1 = .ok (.iload_n 1, 1) := by decide +kernel
theorem dX8_of_2 : decode cX8_of 2 = .ok (.invokevirtual 91, 3) := by decide +kernel
theorem dX8_of_5 : decode cX8_of 5 = .ok (.ifCond .eq 12, 3) := by decide +kernel
theorem dX8_of_8 : decode cX8_of 8 = .ok (.iload_n 2, 1) := by decide +kernel
theorem dX8_of_9 : decode cX8_of 9 = .ok (.iconst 0, 1) := by decide +kernel
theorem dX8_of_10 : decode cX8_of 10 = .ok (.iconst 5, 1) := by decide +kernel
theorem dX8_of_11 : decode cX8_of 11 = .ok (.invokestatic 48, 3) := by decide +kernel
theorem dX8_of_14 : decode cX8_of 14 = .ok (.ifCond .ne 10, 3) := by decide +kernel
theorem dX8_of_17 : decode cX8_of 17 = .ok (.aload_n 0, 1) := by decide +kernel
theorem dX8_of_18 : decode cX8_of 18 = .ok (.ldc 67, 2) := by decide +kernel
theorem dX8_of_20 : decode cX8_of 20 = .ok (.invokevirtual 56, 3) := by decide +kernel
theorem dX8_of_23 : decode cX8_of 23 = .ok (.ireturn, 1) := by decide +kernel
theorem dX8_of_24 : decode cX8_of 24 = .ok (.iload_n 2, 1) := by decide +kernel
theorem dX8_of_25 : decode cX8_of 25 = .ok (.iconst 5, 1) := by decide +kernel
theorem dX8_of_26 : decode cX8_of 26 = .ok (.if_icmp .ge 10, 3) := by decide +kernel
theorem dX8_of_29 : decode cX8_of 29 = .ok (.aload_n 0, 1) := by decide +kernel
theorem dX8_of_30 : decode cX8_of 30 = .ok (.iload_n 1, 1) := by decide +kernel
theorem dX8_of_31 : decode cX8_of 31 = .ok (.iload_n 2, 1) := by decide +kernel
theorem dX8_of_32 : decode cX8_of 32 = .ok (.invokevirtual 94, 3) := by decide +kernel
theorem dX8_of_35 : decode cX8_of 35 = .ok (.ireturn, 1) := by decide +kernel
theorem dX8_of_36 : decode cX8_of 36 = .ok (.iconst 0, 1) := by decide +kernel
theorem dX8_of_37 : decode cX8_of 37 = .ok (.istore_n 3, 1) := by decide +kernel
theorem dX8_of_38 : decode cX8_of 38 = .ok (.iconst 0, 1) := by decide +kernel
theorem dX8_of_39 : decode cX8_of 39 = .ok (.istore 4, 2) := by decide +kernel
theorem dX8_of_41 : decode cX8_of 41 = .ok (.iload 4, 2) := by decide +kernel
theorem dX8_of_43 : decode cX8_of 43 = .ok (.bipush 30, 2) := by decide +kernel
theorem dX8_of_45 : decode cX8_of 45 = .ok (.if_icmp .ge 36, 3) := by decide +kernel
theorem dX8_of_48 : decode cX8_of 48 = .ok (.iload_n 3, 1) := by decide +kernel
theorem dX8_of_49 : decode cX8_of 49 = .ok (.aload_n 0, 1) := by decide +kernel
theorem dX8_of_50 : decode cX8_of 50 = .ok (.getfield 7, 3) := by decide +kernel
theorem dX8_of_53 : decode cX8_of 53 = .ok (.sipush 244, 3) := by decide +kernel
theorem dX8_of_56 : decode cX8_of 56 = .ok (.bipush 30, 2) := by decide +kernel
theorem dX8_of_58 : decode cX8_of 58 = .ok (.iload_n 1, 1) := by decide +kernel
theorem dX8_of_59 : decode cX8_of 59 = .ok (.imul, 1) := by decide +kernel
theorem dX8_of_60 : decode cX8_of 60 = .ok (.iadd, 1) := by decide +kernel
theorem dX8_of_61 : decode cX8_of 61 = .ok (.iload 4, 2) := by decide +kernel
theorem dX8_of_63 : decode cX8_of 63 = .ok (.iadd, 1) := by decide +kernel
theorem dX8_of_64 : decode cX8_of 64 = .ok (.iaload, 1) := by decide +kernel
theorem dX8_of_65 : decode cX8_of 65 = .ok (.ifCond .lt 7, 3) := by decide +kernel
theorem dX8_of_68 : decode cX8_of 68 = .ok (.iconst 1, 1) := by decide +kernel
theorem dX8_of_69 : decode cX8_of 69 = .ok (.goto 4, 3) := by decide +kernel
theorem dX8_of_72 : decode cX8_of 72 = .ok (.iconst 0, 1) := by decide +kernel
theorem dX8_of_73 : decode cX8_of 73 = .ok (.iadd, 1) := by decide +kernel
theorem dX8_of_74 : decode cX8_of 74 = .ok (.istore_n 3, 1) := by decide +kernel
theorem dX8_of_75 : decode cX8_of 75 = .ok (.iinc 4 1, 3) := by decide +kernel
theorem dX8_of_78 : decode cX8_of 78 = .ok (.goto (-37), 3) := by decide +kernel
theorem dX8_of_81 : decode cX8_of 81 = .ok (.iload_n 3, 1) := by decide +kernel
theorem dX8_of_82 : decode cX8_of 82 = .ok (.ireturn, 1) := by decide +kernel
theorem dX8_launch_0 : decode cX8_launch 0 = .ok (.aload_n 0, 1) := by decide +kernel
theorem dX8_launch_1 : decode cX8_launch 1 = .ok (.iload_n 1, 1) := by decide +kernel
theorem dX8_launch_2 : decode cX8_launch 2 = .ok (.invokevirtual 91, 3) := by decide +kernel
theorem dX8_launch_5 : decode cX8_launch 5 = .ok (.ifCond .eq 10, 3) := by decide +kernel
theorem dX8_launch_8 : decode cX8_launch 8 = .ok (.iload_n 2, 1) := by decide +kernel
theorem dX8_launch_9 : decode cX8_launch 9 = .ok (.invokestatic 74, 3) := by decide +kernel
theorem dX8_launch_12 : decode cX8_launch 12 = .ok (.ifCond .ne 10, 3) := by decide +kernel
theorem dX8_launch_15 : decode cX8_launch 15 = .ok (.aload_n 0, 1) := by decide +kernel
theorem dX8_launch_16 : decode cX8_launch 16 = .ok (.ldc 67, 2) := by decide +kernel
theorem dX8_launch_18 : decode cX8_launch 18 = .ok (.invokevirtual 56, 3) := by decide +kernel
theorem dX8_launch_21 : decode cX8_launch 21 = .ok (.ireturn, 1) := by decide +kernel
theorem dX8_launch_22 : decode cX8_launch 22 = .ok (.aload_n 0, 1) := by decide +kernel
theorem dX8_launch_23 : decode cX8_launch 23 = .ok (.sipush 194, 3) := by decide +kernel
theorem dX8_launch_26 : decode cX8_launch 26 = .ok (.iconst 5, 1) := by decide +kernel
theorem dX8_launch_27 : decode cX8_launch 27 = .ok (.iload_n 1, 1) := by decide +kernel
theorem dX8_launch_28 : decode cX8_launch 28 = .ok (.imul, 1) := by decide +kernel
theorem dX8_launch_29 : decode cX8_launch 29 = .ok (.iadd, 1) := by decide +kernel
theorem dX8_launch_30 : decode cX8_launch 30 = .ok (.iconst 1, 1) := by decide +kernel
theorem dX8_launch_31 : decode cX8_launch 31 = .ok (.iadd, 1) := by decide +kernel
theorem dX8_launch_32 : decode cX8_launch 32 = .ok (.iload_n 2, 1) := by decide +kernel
theorem dX8_launch_33 : decode cX8_launch 33 = .ok (.invokevirtual 63, 3) := by decide +kernel
theorem dX8_launch_36 : decode cX8_launch 36 = .ok (.istore_n 3, 1) := by decide +kernel
theorem dX8_launch_37 : decode cX8_launch 37 = .ok (.aload_n 0, 1) := by decide +kernel
theorem dX8_launch_38 : decode cX8_launch 38 = .ok (.iload_n 1, 1) := by decide +kernel
theorem dX8_launch_39 : decode cX8_launch 39 = .ok (.invokevirtual 87, 3) := by decide +kernel
theorem dX8_launch_42 : decode cX8_launch 42 = .ok (.iload_n 3, 1) := by decide +kernel
theorem dX8_launch_43 : decode cX8_launch 43 = .ok (.ireturn, 1) := by decide +kernel
theorem dX8_other_0 : decode cX8_other 0 = .ok (.iconst 0, 1) := by decide +kernel
theorem dX8_other_1 : decode cX8_other 1 = .ok (.istore 4, 2) := by decide +kernel
theorem dX8_other_3 : decode cX8_other 3 = .ok (.iload 4, 2) := by decide +kernel
theorem dX8_other_5 : decode cX8_other 5 = .ok (.aload_n 0, 1) := by decide +kernel
theorem dX8_other_6 : decode cX8_other 6 = .ok (.getfield 7, 3) := by decide +kernel
theorem dX8_other_9 : decode cX8_other 9 = .ok (.iconst 5, 1) := by decide +kernel
theorem dX8_other_10 : decode cX8_other 10 = .ok (.iaload, 1) := by decide +kernel
theorem dX8_other_11 : decode cX8_other 11 = .ok (.if_icmp .ge 38, 3) := by decide +kernel
theorem dX8_other_14 : decode cX8_other 14 = .ok (.iload 4, 2) := by decide +kernel
theorem dX8_other_16 : decode cX8_other 16 = .ok (.iload_n 3, 1) := by decide +kernel
theorem dX8_other_17 : decode cX8_other 17 = .ok (.if_icmp .eq 26, 3) := by decide +kernel
theorem dX8_other_20 : decode cX8_other 20 = .ok (.aload_n 0, 1) := by decide +kernel
theorem dX8_other_21 : decode cX8_other 21 = .ok (.getfield 7, 3) := by decide +kernel
theorem dX8_other_24 : decode cX8_other 24 = .ok (.sipush 244, 3) := by decide +kernel
theorem dX8_other_27 : decode cX8_other 27 = .ok (.bipush 30, 2) := by decide +kernel
theorem dX8_other_29 : decode cX8_other 29 = .ok (.iload 4, 2) := by decide +kernel
theorem dX8_other_31 : decode cX8_other 31 = .ok (.imul, 1) := by decide +kernel
theorem dX8_other_32 : decode cX8_other 32 = .ok (.iadd, 1) := by decide +kernel
theorem dX8_other_33 : decode cX8_other 33 = .ok (.iload_n 2, 1) := by decide +kernel
theorem dX8_other_34 : decode cX8_other 34 = .ok (.iadd, 1) := by decide +kernel
theorem dX8_other_35 : decode cX8_other 35 = .ok (.iaload, 1) := by decide +kernel
theorem dX8_other_36 : decode cX8_other 36 = .ok (.iload_n 1, 1) := by decide +kernel
theorem dX8_other_37 : decode cX8_other 37 = .ok (.if_icmp .ne 6, 3) := by decide +kernel
theorem dX8_other_40 : decode cX8_other 40 = .ok (.iload 4, 2) := by decide +kernel
theorem dX8_other_42 : decode cX8_other 42 = .ok (.ireturn, 1) := by decide +kernel
theorem dX8_other_43 : decode cX8_other 43 = .ok (.iinc 4 1, 3) := by decide +kernel
theorem dX8_other_46 : decode cX8_other 46 = .ok (.goto (-43), 3) := by decide +kernel
theorem dX8_other_49 : decode cX8_other 49 = .ok (.iconst (-1), 1) := by decide +kernel
theorem dX8_other_50 : decode cX8_other 50 = .ok (.ireturn, 1) := by decide +kernel
theorem dX8_mayCamp_0 : decode cX8_mayCamp 0 = .ok (.aload_n 0, 1) := by decide +kernel
theorem dX8_mayCamp_1 : decode cX8_mayCamp 1 = .ok (.iload_n 1, 1) := by decide +kernel
theorem dX8_mayCamp_2 : decode cX8_mayCamp 2 = .ok (.iconst 0, 1) := by decide +kernel
theorem dX8_mayCamp_3 : decode cX8_mayCamp 3 = .ok (.invokevirtual 94, 3) := by decide +kernel
theorem dX8_mayCamp_6 : decode cX8_mayCamp 6 = .ok (.iconst 2, 1) := by decide +kernel
theorem dX8_mayCamp_7 : decode cX8_mayCamp 7 = .ok (.if_icmp .ne 19, 3) := by decide +kernel
theorem dX8_mayCamp_10 : decode cX8_mayCamp 10 = .ok (.aload_n 0, 1) := by decide +kernel
theorem dX8_mayCamp_11 : decode cX8_mayCamp 11 = .ok (.getfield 7, 3) := by decide +kernel
theorem dX8_mayCamp_14 : decode cX8_mayCamp 14 = .ok (.bipush 8, 2) := by decide +kernel
theorem dX8_mayCamp_16 : decode cX8_mayCamp 16 = .ok (.iconst 2, 1) := by decide +kernel
theorem dX8_mayCamp_17 : decode cX8_mayCamp 17 = .ok (.iload_n 2, 1) := by decide +kernel
theorem dX8_mayCamp_18 : decode cX8_mayCamp 18 = .ok (.imul, 1) := by decide +kernel
theorem dX8_mayCamp_19 : decode cX8_mayCamp 19 = .ok (.iadd, 1) := by decide +kernel
theorem dX8_mayCamp_20 : decode cX8_mayCamp 20 = .ok (.iconst 1, 1) := by decide +kernel
theorem dX8_mayCamp_21 : decode cX8_mayCamp 21 = .ok (.iadd, 1) := by decide +kernel
theorem dX8_mayCamp_22 : decode cX8_mayCamp 22 = .ok (.iaload, 1) := by decide +kernel
theorem dX8_mayCamp_23 : decode cX8_mayCamp 23 = .ok (.ifCond .ne 7, 3) := by decide +kernel
theorem dX8_mayCamp_26 : decode cX8_mayCamp 26 = .ok (.iconst 1, 1) := by decide +kernel
theorem dX8_mayCamp_27 : decode cX8_mayCamp 27 = .ok (.goto 4, 3) := by decide +kernel
theorem dX8_mayCamp_30 : decode cX8_mayCamp 30 = .ok (.iconst 0, 1) := by decide +kernel
theorem dX8_mayCamp_31 : decode cX8_mayCamp 31 = .ok (.ireturn, 1) := by decide +kernel
theorem dX8_night_0 : decode cX8_night 0 = .ok (.aload_n 0, 1) := by decide +kernel
theorem dX8_night_1 : decode cX8_night 1 = .ok (.iload_n 1, 1) := by decide +kernel
theorem dX8_night_2 : decode cX8_night 2 = .ok (.invokevirtual 91, 3) := by decide +kernel
theorem dX8_night_5 : decode cX8_night 5 = .ok (.ifCond .eq 23, 3) := by decide +kernel
theorem dX8_night_8 : decode cX8_night 8 = .ok (.iload_n 2, 1) := by decide +kernel
theorem dX8_night_9 : decode cX8_night 9 = .ok (.invokestatic 74, 3) := by decide +kernel
theorem dX8_night_12 : decode cX8_night 12 = .ok (.ifCond .eq 16, 3) := by decide +kernel
theorem dX8_night_15 : decode cX8_night 15 = .ok (.iload_n 3, 1) := by decide +kernel
theorem dX8_night_16 : decode cX8_night 16 = .ok (.iconst (-1), 1) := by decide +kernel
theorem dX8_night_17 : decode cX8_night 17 = .ok (.if_icmp .eq 18, 3) := by decide +kernel
theorem dX8_night_20 : decode cX8_night 20 = .ok (.aload_n 0, 1) := by decide +kernel
theorem dX8_night_21 : decode cX8_night 21 = .ok (.iload_n 3, 1) := by decide +kernel
theorem dX8_night_22 : decode cX8_night 22 = .ok (.invokevirtual 98, 3) := by decide +kernel
theorem dX8_night_25 : decode cX8_night 25 = .ok (.ifCond .ne 10, 3) := by decide +kernel
theorem dX8_night_28 : decode cX8_night 28 = .ok (.aload_n 0, 1) := by decide +kernel
theorem dX8_night_29 : decode cX8_night 29 = .ok (.ldc 67, 2) := by decide +kernel
theorem dX8_night_31 : decode cX8_night 31 = .ok (.invokevirtual 56, 3) := by decide +kernel
theorem dX8_night_34 : decode cX8_night 34 = .ok (.ireturn, 1) := by decide +kernel
theorem dX8_night_35 : decode cX8_night 35 = .ok (.iload_n 3, 1) := by decide +kernel
theorem dX8_night_36 : decode cX8_night 36 = .ok (.ifCond .lt 20, 3) := by decide +kernel
theorem dX8_night_39 : decode cX8_night 39 = .ok (.aload_n 0, 1) := by decide +kernel
theorem dX8_night_40 : decode cX8_night 40 = .ok (.iload_n 3, 1) := by decide +kernel
theorem dX8_night_41 : decode cX8_night 41 = .ok (.iload_n 2, 1) := by decide +kernel
theorem dX8_night_42 : decode cX8_night 42 = .ok (.iload_n 1, 1) := by decide +kernel
theorem dX8_night_43 : decode cX8_night 43 = .ok (.invokevirtual 101, 3) := by decide +kernel
theorem dX8_night_46 : decode cX8_night 46 = .ok (.ifCond .lt 10, 3) := by decide +kernel
theorem dX8_night_49 : decode cX8_night 49 = .ok (.aload_n 0, 1) := by decide +kernel
theorem dX8_night_50 : decode cX8_night 50 = .ok (.ldc 104, 2) := by decide +kernel
theorem dX8_night_52 : decode cX8_night 52 = .ok (.invokevirtual 56, 3) := by decide +kernel
theorem dX8_night_55 : decode cX8_night 55 = .ok (.ireturn, 1) := by decide +kernel
theorem dX8_night_56 : decode cX8_night 56 = .ok (.iload_n 3, 1) := by decide +kernel
theorem dX8_night_57 : decode cX8_night 57 = .ok (.ifCond .lt 19, 3) := by decide +kernel
theorem dX8_night_60 : decode cX8_night 60 = .ok (.aload_n 0, 1) := by decide +kernel
theorem dX8_night_61 : decode cX8_night 61 = .ok (.iload_n 1, 1) := by decide +kernel
theorem dX8_night_62 : decode cX8_night 62 = .ok (.iload_n 3, 1) := by decide +kernel
theorem dX8_night_63 : decode cX8_night 63 = .ok (.invokevirtual 105, 3) := by decide +kernel
theorem dX8_night_66 : decode cX8_night 66 = .ok (.ifCond .ne 10, 3) := by decide +kernel
theorem dX8_night_69 : decode cX8_night 69 = .ok (.aload_n 0, 1) := by decide +kernel
theorem dX8_night_70 : decode cX8_night 70 = .ok (.ldc 97, 2) := by decide +kernel
theorem dX8_night_72 : decode cX8_night 72 = .ok (.invokevirtual 56, 3) := by decide +kernel
theorem dX8_night_75 : decode cX8_night 75 = .ok (.ireturn, 1) := by decide +kernel
theorem dX8_night_76 : decode cX8_night 76 = .ok (.aload_n 0, 1) := by decide +kernel
theorem dX8_night_77 : decode cX8_night 77 = .ok (.sipush 244, 3) := by decide +kernel
theorem dX8_night_80 : decode cX8_night 80 = .ok (.bipush 30, 2) := by decide +kernel
theorem dX8_night_82 : decode cX8_night 82 = .ok (.iload_n 1, 1) := by decide +kernel
theorem dX8_night_83 : decode cX8_night 83 = .ok (.imul, 1) := by decide +kernel
theorem dX8_night_84 : decode cX8_night 84 = .ok (.iadd, 1) := by decide +kernel
theorem dX8_night_85 : decode cX8_night 85 = .ok (.iload_n 2, 1) := by decide +kernel
theorem dX8_night_86 : decode cX8_night 86 = .ok (.iadd, 1) := by decide +kernel
theorem dX8_night_87 : decode cX8_night 87 = .ok (.iload_n 3, 1) := by decide +kernel
theorem dX8_night_88 : decode cX8_night 88 = .ok (.invokevirtual 63, 3) := by decide +kernel
theorem dX8_night_91 : decode cX8_night 91 = .ok (.ireturn, 1) := by decide +kernel
theorem dX8_at_0 : decode cX8_at 0 = .ok (.aload_n 0, 1) := by decide +kernel
theorem dX8_at_1 : decode cX8_at 1 = .ok (.iload_n 1, 1) := by decide +kernel
theorem dX8_at_2 : decode cX8_at 2 = .ok (.invokevirtual 91, 3) := by decide +kernel
theorem dX8_at_5 : decode cX8_at 5 = .ok (.ifCond .eq 10, 3) := by decide +kernel
theorem dX8_at_8 : decode cX8_at 8 = .ok (.iload_n 2, 1) := by decide +kernel
theorem dX8_at_9 : decode cX8_at 9 = .ok (.invokestatic 74, 3) := by decide +kernel
theorem dX8_at_12 : decode cX8_at 12 = .ok (.ifCond .ne 10, 3) := by decide +kernel
theorem dX8_at_15 : decode cX8_at 15 = .ok (.aload_n 0, 1) := by decide +kernel
theorem dX8_at_16 : decode cX8_at 16 = .ok (.ldc 67, 2) := by decide +kernel
theorem dX8_at_18 : decode cX8_at 18 = .ok (.invokevirtual 56, 3) := by decide +kernel
theorem dX8_at_21 : decode cX8_at 21 = .ok (.ireturn, 1) := by decide +kernel
theorem dX8_at_22 : decode cX8_at 22 = .ok (.aload_n 0, 1) := by decide +kernel
theorem dX8_at_23 : decode cX8_at 23 = .ok (.getfield 7, 3) := by decide +kernel
theorem dX8_at_26 : decode cX8_at 26 = .ok (.sipush 244, 3) := by decide +kernel
theorem dX8_at_29 : decode cX8_at 29 = .ok (.bipush 30, 2) := by decide +kernel
theorem dX8_at_31 : decode cX8_at 31 = .ok (.iload_n 1, 1) := by decide +kernel
theorem dX8_at_32 : decode cX8_at 32 = .ok (.imul, 1) := by decide +kernel
theorem dX8_at_33 : decode cX8_at 33 = .ok (.iadd, 1) := by decide +kernel
theorem dX8_at_34 : decode cX8_at 34 = .ok (.iload_n 2, 1) := by decide +kernel
theorem dX8_at_35 : decode cX8_at 35 = .ok (.iadd, 1) := by decide +kernel
theorem dX8_at_36 : decode cX8_at 36 = .ok (.iaload, 1) := by decide +kernel
theorem dX8_at_37 : decode cX8_at 37 = .ok (.istore_n 3, 1) := by decide +kernel
theorem dX8_at_38 : decode cX8_at 38 = .ok (.iload_n 3, 1) := by decide +kernel
theorem dX8_at_39 : decode cX8_at 39 = .ok (.ifCond .ge 12, 3) := by decide +kernel
theorem dX8_at_42 : decode cX8_at 42 = .ok (.aload_n 0, 1) := by decide +kernel
theorem dX8_at_43 : decode cX8_at 43 = .ok (.ldc 55, 2) := by decide +kernel
theorem dX8_at_45 : decode cX8_at 45 = .ok (.invokevirtual 56, 3) := by decide +kernel
theorem dX8_at_48 : decode cX8_at 48 = .ok (.goto 4, 3) := by decide +kernel
theorem dX8_at_51 : decode cX8_at 51 = .ok (.iload_n 3, 1) := by decide +kernel
theorem dX8_at_52 : decode cX8_at 52 = .ok (.ireturn, 1) := by decide +kernel
theorem dX8_who_0 : decode cX8_who 0 = .ok (.aload_n 0, 1) := by decide +kernel
theorem dX8_who_1 : decode cX8_who 1 = .ok (.iload_n 1, 1) := by decide +kernel
theorem dX8_who_2 : decode cX8_who 2 = .ok (.invokevirtual 98, 3) := by decide +kernel
theorem dX8_who_5 : decode cX8_who 5 = .ok (.ifCond .eq 10, 3) := by decide +kernel
theorem dX8_who_8 : decode cX8_who 8 = .ok (.iload_n 2, 1) := by decide +kernel
theorem dX8_who_9 : decode cX8_who 9 = .ok (.invokestatic 74, 3) := by decide +kernel
theorem dX8_who_12 : decode cX8_who 12 = .ok (.ifCond .ne 10, 3) := by decide +kernel
theorem dX8_who_15 : decode cX8_who 15 = .ok (.aload_n 0, 1) := by decide +kernel
theorem dX8_who_16 : decode cX8_who 16 = .ok (.ldc 67, 2) := by decide +kernel
theorem dX8_who_18 : decode cX8_who 18 = .ok (.invokevirtual 56, 3) := by decide +kernel
theorem dX8_who_21 : decode cX8_who 21 = .ok (.ireturn, 1) := by decide +kernel
theorem dX8_who_22 : decode cX8_who 22 = .ok (.aload_n 0, 1) := by decide +kernel
theorem dX8_who_23 : decode cX8_who 23 = .ok (.iload_n 1, 1) := by decide +kernel
theorem dX8_who_24 : decode cX8_who 24 = .ok (.iload_n 2, 1) := by decide +kernel
theorem dX8_who_25 : decode cX8_who 25 = .ok (.iconst (-1), 1) := by decide +kernel
theorem dX8_who_26 : decode cX8_who 26 = .ok (.invokevirtual 101, 3) := by decide +kernel
theorem dX8_who_29 : decode cX8_who 29 = .ok (.istore_n 3, 1) := by decide +kernel
theorem dX8_who_30 : decode cX8_who 30 = .ok (.iload_n 3, 1) := by decide +kernel
theorem dX8_who_31 : decode cX8_who 31 = .ok (.ifCond .ge 12, 3) := by decide +kernel
theorem dX8_who_34 : decode cX8_who 34 = .ok (.aload_n 0, 1) := by decide +kernel
theorem dX8_who_35 : decode cX8_who 35 = .ok (.ldc 55, 2) := by decide +kernel
theorem dX8_who_37 : decode cX8_who 37 = .ok (.invokevirtual 56, 3) := by decide +kernel
theorem dX8_who_40 : decode cX8_who 40 = .ok (.goto 4, 3) := by decide +kernel
theorem dX8_who_43 : decode cX8_who 43 = .ok (.iload_n 3, 1) := by decide +kernel
theorem dX8_who_44 : decode cX8_who 44 = .ok (.ireturn, 1) := by decide +kernel
theorem dX8_mileOf_0 : decode cX8_mileOf 0 = .ok (.iload_n 1, 1) := by decide +kernel
theorem dX8_mileOf_1 : decode cX8_mileOf 1 = .ok (.bipush 14, 2) := by decide +kernel
theorem dX8_mileOf_3 : decode cX8_mileOf 3 = .ok (.if_icmp .ne 7, 3) := by decide +kernel
theorem dX8_mileOf_6 : decode cX8_mileOf 6 = .ok (.iconst 0, 1) := by decide +kernel
theorem dX8_mileOf_7 : decode cX8_mileOf 7 = .ok (.goto 14, 3) := by decide +kernel
theorem dX8_mileOf_10 : decode cX8_mileOf 10 = .ok (.aload_n 0, 1) := by decide +kernel
theorem dX8_mileOf_11 : decode cX8_mileOf 11 = .ok (.getfield 7, 3) := by decide +kernel
theorem dX8_mileOf_14 : decode cX8_mileOf 14 = .ok (.bipush 8, 2) := by decide +kernel
theorem dX8_mileOf_16 : decode cX8_mileOf 16 = .ok (.iconst 2, 1) := by decide +kernel
theorem dX8_mileOf_17 : decode cX8_mileOf 17 = .ok (.iload_n 1, 1) := by decide +kernel
theorem dX8_mileOf_18 : decode cX8_mileOf 18 = .ok (.imul, 1) := by decide +kernel
theorem dX8_mileOf_19 : decode cX8_mileOf 19 = .ok (.iadd, 1) := by decide +kernel
theorem dX8_mileOf_20 : decode cX8_mileOf 20 = .ok (.iaload, 1) := by decide +kernel
theorem dX8_mileOf_21 : decode cX8_mileOf 21 = .ok (.ireturn, 1) := by decide +kernel
theorem dX8_isOpen_0 : decode cX8_isOpen 0 = .ok (.iconst 1, 1) := by decide +kernel
theorem dX8_isOpen_1 : decode cX8_isOpen 1 = .ok (.istore 5, 2) := by decide +kernel
theorem dX8_isOpen_3 : decode cX8_isOpen 3 = .ok (.iconst 0, 1) := by decide +kernel
theorem dX8_isOpen_4 : decode cX8_isOpen 4 = .ok (.istore 6, 2) := by decide +kernel
theorem dX8_isOpen_6 : decode cX8_isOpen 6 = .ok (.iload 6, 2) := by decide +kernel
theorem dX8_isOpen_8 : decode cX8_isOpen 8 = .ok (.aload_n 0, 1) := by decide +kernel
theorem dX8_isOpen_9 : decode cX8_isOpen 9 = .ok (.getfield 7, 3) := by decide +kernel
theorem dX8_isOpen_12 : decode cX8_isOpen 12 = .ok (.iconst 3, 1) := by decide +kernel
theorem dX8_isOpen_13 : decode cX8_isOpen 13 = .ok (.iaload, 1) := by decide +kernel
theorem dX8_isOpen_14 : decode cX8_isOpen 14 = .ok (.if_icmp .ge 62, 3) := by decide +kernel
theorem dX8_isOpen_17 : decode cX8_isOpen 17 = .ok (.aload_n 0, 1) := by decide +kernel
theorem dX8_isOpen_18 : decode cX8_isOpen 18 = .ok (.getfield 7, 3) := by decide +kernel
theorem dX8_isOpen_21 : decode cX8_isOpen 21 = .ok (.bipush 36, 2) := by decide +kernel
theorem dX8_isOpen_23 : decode cX8_isOpen 23 = .ok (.iconst 3, 1) := by decide +kernel
theorem dX8_isOpen_24 : decode cX8_isOpen 24 = .ok (.iload 6, 2) := by decide +kernel
theorem dX8_isOpen_26 : decode cX8_isOpen 26 = .ok (.imul, 1) := by decide +kernel
theorem dX8_isOpen_27 : decode cX8_isOpen 27 = .ok (.iadd, 1) := by decide +kernel
theorem dX8_isOpen_28 : decode cX8_isOpen 28 = .ok (.iaload, 1) := by decide +kernel
theorem dX8_isOpen_29 : decode cX8_isOpen 29 = .ok (.istore 7, 2) := by decide +kernel
theorem dX8_isOpen_31 : decode cX8_isOpen 31 = .ok (.iload 5, 2) := by decide +kernel
theorem dX8_isOpen_33 : decode cX8_isOpen 33 = .ok (.iload 7, 2) := by decide +kernel
theorem dX8_isOpen_35 : decode cX8_isOpen 35 = .ok (.iload_n 2, 1) := by decide +kernel
theorem dX8_isOpen_36 : decode cX8_isOpen 36 = .ok (.if_icmp .le 26, 3) := by decide +kernel
theorem dX8_isOpen_39 : decode cX8_isOpen 39 = .ok (.iload 7, 2) := by decide +kernel
theorem dX8_isOpen_41 : decode cX8_isOpen 41 = .ok (.iload_n 3, 1) := by decide +kernel
theorem dX8_isOpen_42 : decode cX8_isOpen 42 = .ok (.if_icmp .gt 20, 3) := by decide +kernel
theorem dX8_isOpen_45 : decode cX8_isOpen 45 = .ok (.aload_n 0, 1) := by decide +kernel
theorem dX8_isOpen_46 : decode cX8_isOpen 46 = .ok (.iload 6, 2) := by decide +kernel
theorem dX8_isOpen_48 : decode cX8_isOpen 48 = .ok (.iload 4, 2) := by decide +kernel
theorem dX8_isOpen_50 : decode cX8_isOpen 50 = .ok (.aload_n 0, 1) := by decide +kernel
theorem dX8_isOpen_51 : decode cX8_isOpen 51 = .ok (.iload_n 1, 1) := by decide +kernel
theorem dX8_isOpen_52 : decode cX8_isOpen 52 = .ok (.iconst 0, 1) := by decide +kernel
theorem dX8_isOpen_53 : decode cX8_isOpen 53 = .ok (.invokevirtual 94, 3) := by decide +kernel
theorem dX8_isOpen_56 : decode cX8_isOpen 56 = .ok (.invokevirtual 84, 3) := by decide +kernel
theorem dX8_isOpen_59 : decode cX8_isOpen 59 = .ok (.ifCond .lt 7, 3) := by decide +kernel
theorem dX8_isOpen_62 : decode cX8_isOpen 62 = .ok (.iconst 1, 1) := by decide +kernel
theorem dX8_isOpen_63 : decode cX8_isOpen 63 = .ok (.goto 4, 3) := by decide +kernel
theorem dX8_isOpen_66 : decode cX8_isOpen 66 = .ok (.iconst 0, 1) := by decide +kernel
theorem dX8_isOpen_67 : decode cX8_isOpen 67 = .ok (.iand, 1) := by decide +kernel
theorem dX8_isOpen_68 : decode cX8_isOpen 68 = .ok (.istore 5, 2) := by decide +kernel
theorem dX8_isOpen_70 : decode cX8_isOpen 70 = .ok (.iinc 6 1, 3) := by decide +kernel
theorem dX8_isOpen_73 : decode cX8_isOpen 73 = .ok (.goto (-67), 3) := by decide +kernel
theorem dX8_isOpen_76 : decode cX8_isOpen 76 = .ok (.iload 5, 2) := by decide +kernel
theorem dX8_isOpen_78 : decode cX8_isOpen 78 = .ok (.ireturn, 1) := by decide +kernel
theorem dX8_canGo_0 : decode cX8_canGo 0 = .ok (.aload_n 0, 1) := by decide +kernel
theorem dX8_canGo_1 : decode cX8_canGo 1 = .ok (.iload_n 2, 1) := by decide +kernel
theorem dX8_canGo_2 : decode cX8_canGo 2 = .ok (.invokevirtual 109, 3) := by decide +kernel
theorem dX8_canGo_5 : decode cX8_canGo 5 = .ok (.istore 5, 2) := by decide +kernel
theorem dX8_canGo_7 : decode cX8_canGo 7 = .ok (.aload_n 0, 1) := by decide +kernel
theorem dX8_canGo_8 : decode cX8_canGo 8 = .ok (.iload_n 3, 1) := by decide +kernel
theorem dX8_canGo_9 : decode cX8_canGo 9 = .ok (.invokevirtual 109, 3) := by decide +kernel
theorem dX8_canGo_12 : decode cX8_canGo 12 = .ok (.istore 6, 2) := by decide +kernel
theorem dX8_canGo_14 : decode cX8_canGo 14 = .ok (.iload_n 2, 1) := by decide +kernel
theorem dX8_canGo_15 : decode cX8_canGo 15 = .ok (.iload_n 3, 1) := by decide +kernel
theorem dX8_canGo_16 : decode cX8_canGo 16 = .ok (.if_icmp .eq 49, 3) := by decide +kernel
theorem dX8_canGo_19 : decode cX8_canGo 19 = .ok (.iload 6, 2) := by decide +kernel
theorem dX8_canGo_21 : decode cX8_canGo 21 = .ok (.iload 5, 2) := by decide +kernel
theorem dX8_canGo_23 : decode cX8_canGo 23 = .ok (.if_icmp .le 46, 3) := by decide +kernel
theorem dX8_canGo_26 : decode cX8_canGo 26 = .ok (.iload 6, 2) := by decide +kernel
theorem dX8_canGo_28 : decode cX8_canGo 28 = .ok (.iload 5, 2) := by decide +kernel
theorem dX8_canGo_30 : decode cX8_canGo 30 = .ok (.aload_n 0, 1) := by decide +kernel
theorem dX8_canGo_31 : decode cX8_canGo 31 = .ok (.iload_n 1, 1) := by decide +kernel
theorem dX8_canGo_32 : decode cX8_canGo 32 = .ok (.iconst 2, 1) := by decide +kernel
theorem dX8_canGo_33 : decode cX8_canGo 33 = .ok (.invokevirtual 94, 3) := by decide +kernel
theorem dX8_canGo_36 : decode cX8_canGo 36 = .ok (.iadd, 1) := by decide +kernel
theorem dX8_canGo_37 : decode cX8_canGo 37 = .ok (.if_icmp .gt 32, 3) := by decide +kernel
theorem dX8_canGo_40 : decode cX8_canGo 40 = .ok (.iload 6, 2) := by decide +kernel
theorem dX8_canGo_42 : decode cX8_canGo 42 = .ok (.aload_n 0, 1) := by decide +kernel
theorem dX8_canGo_43 : decode cX8_canGo 43 = .ok (.getfield 7, 3) := by decide +kernel
theorem dX8_canGo_46 : decode cX8_canGo 46 = .ok (.iconst 0, 1) := by decide +kernel
theorem dX8_canGo_47 : decode cX8_canGo 47 = .ok (.iaload, 1) := by decide +kernel
theorem dX8_canGo_48 : decode cX8_canGo 48 = .ok (.if_icmp .ge 21, 3) := by decide +kernel
theorem dX8_canGo_51 : decode cX8_canGo 51 = .ok (.aload_n 0, 1) := by decide +kernel
theorem dX8_canGo_52 : decode cX8_canGo 52 = .ok (.iload_n 1, 1) := by decide +kernel
theorem dX8_canGo_53 : decode cX8_canGo 53 = .ok (.iload 5, 2) := by decide +kernel
theorem dX8_canGo_55 : decode cX8_canGo 55 = .ok (.iload 6, 2) := by decide +kernel
theorem dX8_canGo_57 : decode cX8_canGo 57 = .ok (.iload 4, 2) := by decide +kernel
theorem dX8_canGo_59 : decode cX8_canGo 59 = .ok (.invokevirtual 112, 3) := by decide +kernel
theorem dX8_canGo_62 : decode cX8_canGo 62 = .ok (.ifCond .eq 7, 3) := by decide +kernel
theorem dX8_canGo_65 : decode cX8_canGo 65 = .ok (.iconst 1, 1) := by decide +kernel
theorem dX8_canGo_66 : decode cX8_canGo 66 = .ok (.goto 4, 3) := by decide +kernel
theorem dX8_canGo_69 : decode cX8_canGo 69 = .ok (.iconst 0, 1) := by decide +kernel
theorem dX8_canGo_70 : decode cX8_canGo 70 = .ok (.istore 7, 2) := by decide +kernel
theorem dX8_canGo_72 : decode cX8_canGo 72 = .ok (.iload 7, 2) := by decide +kernel
theorem dX8_canGo_74 : decode cX8_canGo 74 = .ok (.ifCond .eq 27, 3) := by decide +kernel
theorem dX8_canGo_77 : decode cX8_canGo 77 = .ok (.aload_n 0, 1) := by decide +kernel
theorem dX8_canGo_78 : decode cX8_canGo 78 = .ok (.iload_n 1, 1) := by decide +kernel
theorem dX8_canGo_79 : decode cX8_canGo 79 = .ok (.iload_n 3, 1) := by decide +kernel
theorem dX8_canGo_80 : decode cX8_canGo 80 = .ok (.invokevirtual 105, 3) := by decide +kernel
theorem dX8_canGo_83 : decode cX8_canGo 83 = .ok (.ifCond .eq 18, 3) := by decide +kernel
theorem dX8_canGo_86 : decode cX8_canGo 86 = .ok (.aload_n 0, 1) := by decide +kernel
theorem dX8_canGo_87 : decode cX8_canGo 87 = .ok (.iload_n 3, 1) := by decide +kernel
theorem dX8_canGo_88 : decode cX8_canGo 88 = .ok (.iload 4, 2) := by decide +kernel
theorem dX8_canGo_90 : decode cX8_canGo 90 = .ok (.iload_n 1, 1) := by decide +kernel
theorem dX8_canGo_91 : decode cX8_canGo 91 = .ok (.invokevirtual 101, 3) := by decide +kernel
theorem dX8_canGo_94 : decode cX8_canGo 94 = .ok (.ifCond .ge 7, 3) := by decide +kernel
theorem dX8_canGo_97 : decode cX8_canGo 97 = .ok (.iconst 1, 1) := by decide +kernel
theorem dX8_canGo_98 : decode cX8_canGo 98 = .ok (.goto 4, 3) := by decide +kernel
theorem dX8_canGo_101 : decode cX8_canGo 101 = .ok (.iconst 0, 1) := by decide +kernel
theorem dX8_canGo_102 : decode cX8_canGo 102 = .ok (.ireturn, 1) := by decide +kernel
theorem dX8_canEnd_0 : decode cX8_canEnd 0 = .ok (.aload_n 0, 1) := by decide +kernel
theorem dX8_canEnd_1 : decode cX8_canEnd 1 = .ok (.iload_n 2, 1) := by decide +kernel
theorem dX8_canEnd_2 : decode cX8_canEnd 2 = .ok (.invokevirtual 109, 3) := by decide +kernel
theorem dX8_canEnd_5 : decode cX8_canEnd 5 = .ok (.istore 4, 2) := by decide +kernel
theorem dX8_canEnd_7 : decode cX8_canEnd 7 = .ok (.aload_n 0, 1) := by decide +kernel
theorem dX8_canEnd_8 : decode cX8_canEnd 8 = .ok (.getfield 7, 3) := by decide +kernel
theorem dX8_canEnd_11 : decode cX8_canEnd 11 = .ok (.iconst 0, 1) := by decide +kernel
theorem dX8_canEnd_12 : decode cX8_canEnd 12 = .ok (.iaload, 1) := by decide +kernel
theorem dX8_canEnd_13 : decode cX8_canEnd 13 = .ok (.iload 4, 2) := by decide +kernel
theorem dX8_canEnd_15 : decode cX8_canEnd 15 = .ok (.aload_n 0, 1) := by decide +kernel
theorem dX8_canEnd_16 : decode cX8_canEnd 16 = .ok (.iload_n 1, 1) := by decide +kernel
theorem dX8_canEnd_17 : decode cX8_canEnd 17 = .ok (.iconst 2, 1) := by decide +kernel
theorem dX8_canEnd_18 : decode cX8_canEnd 18 = .ok (.invokevirtual 94, 3) := by decide +kernel
theorem dX8_canEnd_21 : decode cX8_canEnd 21 = .ok (.iadd, 1) := by decide +kernel
theorem dX8_canEnd_22 : decode cX8_canEnd 22 = .ok (.if_icmp .gt 26, 3) := by decide +kernel
theorem dX8_canEnd_25 : decode cX8_canEnd 25 = .ok (.aload_n 0, 1) := by decide +kernel
theorem dX8_canEnd_26 : decode cX8_canEnd 26 = .ok (.iload_n 1, 1) := by decide +kernel
theorem dX8_canEnd_27 : decode cX8_canEnd 27 = .ok (.iload 4, 2) := by decide +kernel
theorem dX8_canEnd_29 : decode cX8_canEnd 29 = .ok (.aload_n 0, 1) := by decide +kernel
theorem dX8_canEnd_30 : decode cX8_canEnd 30 = .ok (.getfield 7, 3) := by decide +kernel
theorem dX8_canEnd_33 : decode cX8_canEnd 33 = .ok (.iconst 0, 1) := by decide +kernel
theorem dX8_canEnd_34 : decode cX8_canEnd 34 = .ok (.iaload, 1) := by decide +kernel
theorem dX8_canEnd_35 : decode cX8_canEnd 35 = .ok (.iconst 1, 1) := by decide +kernel
theorem dX8_canEnd_36 : decode cX8_canEnd 36 = .ok (.isub, 1) := by decide +kernel
theorem dX8_canEnd_37 : decode cX8_canEnd 37 = .ok (.iload_n 3, 1) := by decide +kernel
theorem dX8_canEnd_38 : decode cX8_canEnd 38 = .ok (.invokevirtual 112, 3) := by decide +kernel
theorem dX8_canEnd_41 : decode cX8_canEnd 41 = .ok (.ifCond .eq 7, 3) := by decide +kernel
theorem dX8_canEnd_44 : decode cX8_canEnd 44 = .ok (.iconst 1, 1) := by decide +kernel
theorem dX8_canEnd_45 : decode cX8_canEnd 45 = .ok (.goto 4, 3) := by decide +kernel
theorem dX8_canEnd_48 : decode cX8_canEnd 48 = .ok (.iconst 0, 1) := by decide +kernel
theorem dX8_canEnd_49 : decode cX8_canEnd 49 = .ok (.ireturn, 1) := by decide +kernel
theorem dX8_leftAt_0 : decode cX8_leftAt 0 = .ok (.aload_n 0, 1) := by decide +kernel
theorem dX8_leftAt_1 : decode cX8_leftAt 1 = .ok (.getfield 25, 3) := by decide +kernel
theorem dX8_leftAt_4 : decode cX8_leftAt 4 = .ok (.bipush 45, 2) := by decide +kernel
theorem dX8_leftAt_6 : decode cX8_leftAt 6 = .ok (.iload_n 1, 1) := by decide +kernel
theorem dX8_leftAt_7 : decode cX8_leftAt 7 = .ok (.imul, 1) := by decide +kernel
theorem dX8_leftAt_8 : decode cX8_leftAt 8 = .ok (.iconst 3, 1) := by decide +kernel
theorem dX8_leftAt_9 : decode cX8_leftAt 9 = .ok (.iload_n 2, 1) := by decide +kernel
theorem dX8_leftAt_10 : decode cX8_leftAt 10 = .ok (.imul, 1) := by decide +kernel
theorem dX8_leftAt_11 : decode cX8_leftAt 11 = .ok (.iadd, 1) := by decide +kernel
theorem dX8_leftAt_12 : decode cX8_leftAt 12 = .ok (.iload_n 3, 1) := by decide +kernel
theorem dX8_leftAt_13 : decode cX8_leftAt 13 = .ok (.iadd, 1) := by decide +kernel
theorem dX8_leftAt_14 : decode cX8_leftAt 14 = .ok (.iaload, 1) := by decide +kernel
theorem dX8_leftAt_15 : decode cX8_leftAt 15 = .ok (.ireturn, 1) := by decide +kernel
theorem dX8_tell_0 : decode cX8_tell 0 = .ok (.aload_n 0, 1) := by decide +kernel
theorem dX8_tell_1 : decode cX8_tell 1 = .ok (.iload_n 1, 1) := by decide +kernel
theorem dX8_tell_2 : decode cX8_tell 2 = .ok (.iconst 1, 1) := by decide +kernel
theorem dX8_tell_3 : decode cX8_tell 3 = .ok (.invokevirtual 94, 3) := by decide +kernel
theorem dX8_tell_6 : decode cX8_tell 6 = .ok (.istore_n 2, 1) := by decide +kernel
theorem dX8_tell_7 : decode cX8_tell 7 = .ok (.aload_n 0, 1) := by decide +kernel
theorem dX8_tell_8 : decode cX8_tell 8 = .ok (.iload_n 1, 1) := by decide +kernel
theorem dX8_tell_9 : decode cX8_tell 9 = .ok (.iconst 3, 1) := by decide +kernel
theorem dX8_tell_10 : decode cX8_tell 10 = .ok (.invokevirtual 94, 3) := by decide +kernel
theorem dX8_tell_13 : decode cX8_tell 13 = .ok (.istore_n 3, 1) := by decide +kernel
theorem dX8_tell_14 : decode cX8_tell 14 = .ok (.iload_n 3, 1) := by decide +kernel
theorem dX8_tell_15 : decode cX8_tell 15 = .ok (.bipush 30, 2) := by decide +kernel
theorem dX8_tell_17 : decode cX8_tell 17 = .ok (.iload_n 2, 1) := by decide +kernel
theorem dX8_tell_18 : decode cX8_tell 18 = .ok (.isub, 1) := by decide +kernel
theorem dX8_tell_19 : decode cX8_tell 19 = .ok (.if_icmp .le 10, 3) := by decide +kernel
theorem dX8_tell_22 : decode cX8_tell 22 = .ok (.bipush 30, 2) := by decide +kernel
theorem dX8_tell_24 : decode cX8_tell 24 = .ok (.iload_n 2, 1) := by decide +kernel
theorem dX8_tell_25 : decode cX8_tell 25 = .ok (.isub, 1) := by decide +kernel
theorem dX8_tell_26 : decode cX8_tell 26 = .ok (.goto 4, 3) := by decide +kernel
theorem dX8_tell_29 : decode cX8_tell 29 = .ok (.iload_n 3, 1) := by decide +kernel
theorem dX8_tell_30 : decode cX8_tell 30 = .ok (.istore_n 3, 1) := by decide +kernel
theorem dX8_tell_31 : decode cX8_tell 31 = .ok (.iload_n 3, 1) := by decide +kernel
theorem dX8_tell_32 : decode cX8_tell 32 = .ok (.istore 4, 2) := by decide +kernel
theorem dX8_tell_34 : decode cX8_tell 34 = .ok (.iload 4, 2) := by decide +kernel
theorem dX8_tell_36 : decode cX8_tell 36 = .ok (.ifCond .lt 111, 3) := by decide +kernel
theorem dX8_tell_39 : decode cX8_tell 39 = .ok (.iconst 0, 1) := by decide +kernel
theorem dX8_tell_40 : decode cX8_tell 40 = .ok (.istore 5, 2) := by decide +kernel
theorem dX8_tell_42 : decode cX8_tell 42 = .ok (.iload 5, 2) := by decide +kernel
theorem dX8_tell_44 : decode cX8_tell 44 = .ok (.bipush 14, 2) := by decide +kernel
theorem dX8_tell_46 : decode cX8_tell 46 = .ok (.if_icmp .gt 95, 3) := by decide +kernel
theorem dX8_tell_49 : decode cX8_tell 49 = .ok (.iload 5, 2) := by decide +kernel
theorem dX8_tell_51 : decode cX8_tell 51 = .ok (.bipush 14, 2) := by decide +kernel
theorem dX8_tell_53 : decode cX8_tell 53 = .ok (.if_icmp .eq 14, 3) := by decide +kernel
theorem dX8_tell_56 : decode cX8_tell 56 = .ok (.iload 5, 2) := by decide +kernel
theorem dX8_tell_58 : decode cX8_tell 58 = .ok (.aload_n 0, 1) := by decide +kernel
theorem dX8_tell_59 : decode cX8_tell 59 = .ok (.getfield 7, 3) := by decide +kernel
theorem dX8_tell_62 : decode cX8_tell 62 = .ok (.iconst 2, 1) := by decide +kernel
theorem dX8_tell_63 : decode cX8_tell 63 = .ok (.iaload, 1) := by decide +kernel
theorem dX8_tell_64 : decode cX8_tell 64 = .ok (.if_icmp .ge 7, 3) := by decide +kernel
theorem dX8_tell_67 : decode cX8_tell 67 = .ok (.iconst 1, 1) := by decide +kernel
theorem dX8_tell_68 : decode cX8_tell 68 = .ok (.goto 4, 3) := by decide +kernel
theorem dX8_tell_71 : decode cX8_tell 71 = .ok (.iconst 0, 1) := by decide +kernel
theorem dX8_tell_72 : decode cX8_tell 72 = .ok (.istore 6, 2) := by decide +kernel
theorem dX8_tell_74 : decode cX8_tell 74 = .ok (.iconst 0, 1) := by decide +kernel
theorem dX8_tell_75 : decode cX8_tell 75 = .ok (.istore 7, 2) := by decide +kernel
theorem dX8_tell_77 : decode cX8_tell 77 = .ok (.iload 7, 2) := by decide +kernel
theorem dX8_tell_79 : decode cX8_tell 79 = .ok (.iconst 3, 1) := by decide +kernel
theorem dX8_tell_80 : decode cX8_tell 80 = .ok (.if_icmp .ge 55, 3) := by decide +kernel
theorem dX8_tell_83 : decode cX8_tell 83 = .ok (.aload_n 0, 1) := by decide +kernel
theorem dX8_tell_84 : decode cX8_tell 84 = .ok (.getfield 25, 3) := by decide +kernel
theorem dX8_tell_87 : decode cX8_tell 87 = .ok (.bipush 45, 2) := by decide +kernel
theorem dX8_tell_89 : decode cX8_tell 89 = .ok (.iload 4, 2) := by decide +kernel
theorem dX8_tell_91 : decode cX8_tell 91 = .ok (.imul, 1) := by decide +kernel
theorem dX8_tell_92 : decode cX8_tell 92 = .ok (.iconst 3, 1) := by decide +kernel
theorem dX8_tell_93 : decode cX8_tell 93 = .ok (.iload 5, 2) := by decide +kernel
theorem dX8_tell_95 : decode cX8_tell 95 = .ok (.imul, 1) := by decide +kernel
theorem dX8_tell_96 : decode cX8_tell 96 = .ok (.iadd, 1) := by decide +kernel
theorem dX8_tell_97 : decode cX8_tell 97 = .ok (.iload 7, 2) := by decide +kernel
theorem dX8_tell_99 : decode cX8_tell 99 = .ok (.iadd, 1) := by decide +kernel
theorem dX8_tell_100 : decode cX8_tell 100 = .ok (.iload 6, 2) := by decide +kernel
theorem dX8_tell_102 : decode cX8_tell 102 = .ok (.ifCond .eq 23, 3) := by decide +kernel
theorem dX8_tell_105 : decode cX8_tell 105 = .ok (.iload 4, 2) := by decide +kernel
theorem dX8_tell_107 : decode cX8_tell 107 = .ok (.iload_n 3, 1) := by decide +kernel
theorem dX8_tell_108 : decode cX8_tell 108 = .ok (.if_icmp .ge 17, 3) := by decide +kernel
theorem dX8_tell_111 : decode cX8_tell 111 = .ok (.aload_n 0, 1) := by decide +kernel
theorem dX8_tell_112 : decode cX8_tell 112 = .ok (.iload_n 1, 1) := by decide +kernel
theorem dX8_tell_113 : decode cX8_tell 113 = .ok (.iload 4, 2) := by decide +kernel
theorem dX8_tell_115 : decode cX8_tell 115 = .ok (.iload 5, 2) := by decide +kernel
theorem dX8_tell_117 : decode cX8_tell 117 = .ok (.iload 7, 2) := by decide +kernel
theorem dX8_tell_119 : decode cX8_tell 119 = .ok (.invokevirtual 116, 3) := by decide +kernel
theorem dX8_tell_122 : decode cX8_tell 122 = .ok (.goto 6, 3) := by decide +kernel
theorem dX8_tell_125 : decode cX8_tell 125 = .ok (.sipush 1000, 3) := by decide +kernel
theorem dX8_tell_128 : decode cX8_tell 128 = .ok (.iastore, 1) := by decide +kernel
theorem dX8_tell_129 : decode cX8_tell 129 = .ok (.iinc 7 1, 3) := by decide +kernel
theorem dX8_tell_132 : decode cX8_tell 132 = .ok (.goto (-55), 3) := by decide +kernel
theorem dX8_tell_135 : decode cX8_tell 135 = .ok (.iinc 5 1, 3) := by decide +kernel
theorem dX8_tell_138 : decode cX8_tell 138 = .ok (.goto (-96), 3) := by decide +kernel
theorem dX8_tell_141 : decode cX8_tell 141 = .ok (.iinc 4 (-1), 3) := by decide +kernel
theorem dX8_tell_144 : decode cX8_tell 144 = .ok (.goto (-110), 3) := by decide +kernel
theorem dX8_tell_147 : decode cX8_tell 147 = .ok (.aload_n 0, 1) := by decide +kernel
theorem dX8_tell_148 : decode cX8_tell 148 = .ok (.iconst 0, 1) := by decide +kernel
theorem dX8_tell_149 : decode cX8_tell 149 = .ok (.bipush 14, 2) := by decide +kernel
theorem dX8_tell_151 : decode cX8_tell 151 = .ok (.aload_n 0, 1) := by decide +kernel
theorem dX8_tell_152 : decode cX8_tell 152 = .ok (.iload_n 1, 1) := by decide +kernel
theorem dX8_tell_153 : decode cX8_tell 153 = .ok (.iconst 4, 1) := by decide +kernel
theorem dX8_tell_154 : decode cX8_tell 154 = .ok (.invokevirtual 94, 3) := by decide +kernel
theorem dX8_tell_157 : decode cX8_tell 157 = .ok (.invokevirtual 120, 3) := by decide +kernel
theorem dX8_tell_160 : decode cX8_tell 160 = .ok (.ireturn, 1) := by decide +kernel
theorem dX8_leftFrom_0 : decode cX8_leftFrom 0 = .ok (.aload_n 0, 1) := by decide +kernel
theorem dX8_leftFrom_1 : decode cX8_leftFrom 1 = .ok (.iload_n 1, 1) := by decide +kernel
theorem dX8_leftFrom_2 : decode cX8_leftFrom 2 = .ok (.iconst 1, 1) := by decide +kernel
theorem dX8_leftFrom_3 : decode cX8_leftFrom 3 = .ok (.invokevirtual 94, 3) := by decide +kernel
theorem dX8_leftFrom_6 : decode cX8_leftFrom 6 = .ok (.iload_n 2, 1) := by decide +kernel
theorem dX8_leftFrom_7 : decode cX8_leftFrom 7 = .ok (.iadd, 1) := by decide +kernel
theorem dX8_leftFrom_8 : decode cX8_leftFrom 8 = .ok (.istore 5, 2) := by decide +kernel
theorem dX8_leftFrom_10 : decode cX8_leftFrom 10 = .ok (.aload_n 0, 1) := by decide +kernel
theorem dX8_leftFrom_11 : decode cX8_leftFrom 11 = .ok (.iload_n 1, 1) := by decide +kernel
theorem dX8_leftFrom_12 : decode cX8_leftFrom 12 = .ok (.iload_n 3, 1) := by decide +kernel
theorem dX8_leftFrom_13 : decode cX8_leftFrom 13 = .ok (.iload 5, 2) := by decide +kernel
theorem dX8_leftFrom_15 : decode cX8_leftFrom 15 = .ok (.invokevirtual 123, 3) := by decide +kernel
theorem dX8_leftFrom_18 : decode cX8_leftFrom 18 = .ok (.ifCond .eq 7, 3) := by decide +kernel
theorem dX8_leftFrom_21 : decode cX8_leftFrom 21 = .ok (.iconst 1, 1) := by decide +kernel
theorem dX8_leftFrom_22 : decode cX8_leftFrom 22 = .ok (.goto 6, 3) := by decide +kernel
theorem dX8_leftFrom_25 : decode cX8_leftFrom 25 = .ok (.sipush 1000, 3) := by decide +kernel
theorem dX8_leftFrom_28 : decode cX8_leftFrom 28 = .ok (.istore 6, 2) := by decide +kernel
theorem dX8_leftFrom_30 : decode cX8_leftFrom 30 = .ok (.iconst 0, 1) := by decide +kernel
theorem dX8_leftFrom_31 : decode cX8_leftFrom 31 = .ok (.istore 7, 2) := by decide +kernel
theorem dX8_leftFrom_33 : decode cX8_leftFrom 33 = .ok (.iload 7, 2) := by decide +kernel
theorem dX8_leftFrom_35 : decode cX8_leftFrom 35 = .ok (.aload_n 0, 1) := by decide +kernel
theorem dX8_leftFrom_36 : decode cX8_leftFrom 36 = .ok (.getfield 7, 3) := by decide +kernel
theorem dX8_leftFrom_39 : decode cX8_leftFrom 39 = .ok (.iconst 2, 1) := by decide +kernel
theorem dX8_leftFrom_40 : decode cX8_leftFrom 40 = .ok (.iaload, 1) := by decide +kernel
theorem dX8_leftFrom_41 : decode cX8_leftFrom 41 = .ok (.if_icmp .ge 94, 3) := by decide +kernel
theorem dX8_leftFrom_44 : decode cX8_leftFrom 44 = .ok (.iload 7, 2) := by decide +kernel
theorem dX8_leftFrom_46 : decode cX8_leftFrom 46 = .ok (.iload_n 3, 1) := by decide +kernel
theorem dX8_leftFrom_47 : decode cX8_leftFrom 47 = .ok (.if_icmp .ne 10, 3) := by decide +kernel
theorem dX8_leftFrom_50 : decode cX8_leftFrom 50 = .ok (.iload 4, 2) := by decide +kernel
theorem dX8_leftFrom_52 : decode cX8_leftFrom 52 = .ok (.iconst 1, 1) := by decide +kernel
theorem dX8_leftFrom_53 : decode cX8_leftFrom 53 = .ok (.isub, 1) := by decide +kernel
theorem dX8_leftFrom_54 : decode cX8_leftFrom 54 = .ok (.goto 5, 3) := by decide +kernel
theorem dX8_leftFrom_57 : decode cX8_leftFrom 57 = .ok (.iload 4, 2) := by decide +kernel
theorem dX8_leftFrom_59 : decode cX8_leftFrom 59 = .ok (.istore 8, 2) := by decide +kernel
theorem dX8_leftFrom_61 : decode cX8_leftFrom 61 = .ok (.iload 8, 2) := by decide +kernel
theorem dX8_leftFrom_63 : decode cX8_leftFrom 63 = .ok (.ifCond .lt 66, 3) := by decide +kernel
theorem dX8_leftFrom_66 : decode cX8_leftFrom 66 = .ok (.aload_n 0, 1) := by decide +kernel
theorem dX8_leftFrom_67 : decode cX8_leftFrom 67 = .ok (.iload_n 2, 1) := by decide +kernel
theorem dX8_leftFrom_68 : decode cX8_leftFrom 68 = .ok (.iconst 1, 1) := by decide +kernel
theorem dX8_leftFrom_69 : decode cX8_leftFrom 69 = .ok (.iadd, 1) := by decide +kernel
theorem dX8_leftFrom_70 : decode cX8_leftFrom 70 = .ok (.iload 7, 2) := by decide +kernel
theorem dX8_leftFrom_72 : decode cX8_leftFrom 72 = .ok (.iload 8, 2) := by decide +kernel
theorem dX8_leftFrom_74 : decode cX8_leftFrom 74 = .ok (.invokevirtual 120, 3) := by decide +kernel
theorem dX8_leftFrom_77 : decode cX8_leftFrom 77 = .ok (.sipush 1000, 3) := by decide +kernel
theorem dX8_leftFrom_80 : decode cX8_leftFrom 80 = .ok (.if_icmp .ge 49, 3) := by decide +kernel
theorem dX8_leftFrom_83 : decode cX8_leftFrom 83 = .ok (.iconst 1, 1) := by decide +kernel
theorem dX8_leftFrom_84 : decode cX8_leftFrom 84 = .ok (.aload_n 0, 1) := by decide +kernel
theorem dX8_leftFrom_85 : decode cX8_leftFrom 85 = .ok (.iload_n 2, 1) := by decide +kernel
theorem dX8_leftFrom_86 : decode cX8_leftFrom 86 = .ok (.iconst 1, 1) := by decide +kernel
theorem dX8_leftFrom_87 : decode cX8_leftFrom 87 = .ok (.iadd, 1) := by decide +kernel
theorem dX8_leftFrom_88 : decode cX8_leftFrom 88 = .ok (.iload 7, 2) := by decide +kernel
theorem dX8_leftFrom_90 : decode cX8_leftFrom 90 = .ok (.iload 8, 2) := by decide +kernel
theorem dX8_leftFrom_92 : decode cX8_leftFrom 92 = .ok (.invokevirtual 120, 3) := by decide +kernel
theorem dX8_leftFrom_95 : decode cX8_leftFrom 95 = .ok (.iadd, 1) := by decide +kernel
theorem dX8_leftFrom_96 : decode cX8_leftFrom 96 = .ok (.iload 6, 2) := by decide +kernel
theorem dX8_leftFrom_98 : decode cX8_leftFrom 98 = .ok (.if_icmp .ge 31, 3) := by decide +kernel
theorem dX8_leftFrom_101 : decode cX8_leftFrom 101 = .ok (.aload_n 0, 1) := by decide +kernel
theorem dX8_leftFrom_102 : decode cX8_leftFrom 102 = .ok (.iload_n 1, 1) := by decide +kernel
theorem dX8_leftFrom_103 : decode cX8_leftFrom 103 = .ok (.iload_n 3, 1) := by decide +kernel
theorem dX8_leftFrom_104 : decode cX8_leftFrom 104 = .ok (.iload 7, 2) := by decide +kernel
theorem dX8_leftFrom_106 : decode cX8_leftFrom 106 = .ok (.iload 5, 2) := by decide +kernel
theorem dX8_leftFrom_108 : decode cX8_leftFrom 108 = .ok (.invokevirtual 126, 3) := by decide +kernel
theorem dX8_leftFrom_111 : decode cX8_leftFrom 111 = .ok (.ifCond .eq 18, 3) := by decide +kernel
theorem dX8_leftFrom_114 : decode cX8_leftFrom 114 = .ok (.iconst 1, 1) := by decide +kernel
theorem dX8_leftFrom_115 : decode cX8_leftFrom 115 = .ok (.aload_n 0, 1) := by decide +kernel
theorem dX8_leftFrom_116 : decode cX8_leftFrom 116 = .ok (.iload_n 2, 1) := by decide +kernel
theorem dX8_leftFrom_117 : decode cX8_leftFrom 117 = .ok (.iconst 1, 1) := by decide +kernel
theorem dX8_leftFrom_118 : decode cX8_leftFrom 118 = .ok (.iadd, 1) := by decide +kernel
theorem dX8_leftFrom_119 : decode cX8_leftFrom 119 = .ok (.iload 7, 2) := by decide +kernel
theorem dX8_leftFrom_121 : decode cX8_leftFrom 121 = .ok (.iload 8, 2) := by decide +kernel
theorem dX8_leftFrom_123 : decode cX8_leftFrom 123 = .ok (.invokevirtual 120, 3) := by decide +kernel
theorem dX8_leftFrom_126 : decode cX8_leftFrom 126 = .ok (.iadd, 1) := by decide +kernel
theorem dX8_leftFrom_127 : decode cX8_leftFrom 127 = .ok (.istore 6, 2) := by decide +kernel
theorem dX8_leftFrom_129 : decode cX8_leftFrom 129 = .ok (.iinc 7 1, 3) := by decide +kernel
theorem dX8_leftFrom_132 : decode cX8_leftFrom 132 = .ok (.goto (-99), 3) := by decide +kernel
theorem dX8_leftFrom_135 : decode cX8_leftFrom 135 = .ok (.iload 6, 2) := by decide +kernel
theorem dX8_leftFrom_137 : decode cX8_leftFrom 137 = .ok (.ireturn, 1) := by decide +kernel
theorem dX8_planOf_0 : decode cX8_planOf 0 = .ok (.aload_n 0, 1) := by decide +kernel
theorem dX8_planOf_1 : decode cX8_planOf 1 = .ok (.iload_n 1, 1) := by decide +kernel
theorem dX8_planOf_2 : decode cX8_planOf 2 = .ok (.invokevirtual 129, 3) := by decide +kernel
theorem dX8_planOf_5 : decode cX8_planOf 5 = .ok (.istore_n 2, 1) := by decide +kernel
theorem dX8_planOf_6 : decode cX8_planOf 6 = .ok (.iload_n 2, 1) := by decide +kernel
theorem dX8_planOf_7 : decode cX8_planOf 7 = .ok (.sipush 1000, 3) := by decide +kernel
theorem dX8_planOf_10 : decode cX8_planOf 10 = .ok (.if_icmp .ne 5, 3) := by decide +kernel
theorem dX8_planOf_13 : decode cX8_planOf 13 = .ok (.iload_n 2, 1) := by decide +kernel
theorem dX8_planOf_14 : decode cX8_planOf 14 = .ok (.ireturn, 1) := by decide +kernel
theorem dX8_planOf_15 : decode cX8_planOf 15 = .ok (.bipush 14, 2) := by decide +kernel
theorem dX8_planOf_17 : decode cX8_planOf 17 = .ok (.istore_n 3, 1) := by decide +kernel
theorem dX8_planOf_18 : decode cX8_planOf 18 = .ok (.aload_n 0, 1) := by decide +kernel
theorem dX8_planOf_19 : decode cX8_planOf 19 = .ok (.iload_n 1, 1) := by decide +kernel
theorem dX8_planOf_20 : decode cX8_planOf 20 = .ok (.iconst 4, 1) := by decide +kernel
theorem dX8_planOf_21 : decode cX8_planOf 21 = .ok (.invokevirtual 94, 3) := by decide +kernel
theorem dX8_planOf_24 : decode cX8_planOf 24 = .ok (.istore 4, 2) := by decide +kernel
theorem dX8_planOf_26 : decode cX8_planOf 26 = .ok (.iconst 0, 1) := by decide +kernel
theorem dX8_planOf_27 : decode cX8_planOf 27 = .ok (.istore 5, 2) := by decide +kernel
theorem dX8_planOf_29 : decode cX8_planOf 29 = .ok (.iload 5, 2) := by decide +kernel
theorem dX8_planOf_31 : decode cX8_planOf 31 = .ok (.iconst 1, 1) := by decide +kernel
theorem dX8_planOf_32 : decode cX8_planOf 32 = .ok (.iadd, 1) := by decide +kernel
theorem dX8_planOf_33 : decode cX8_planOf 33 = .ok (.iload_n 2, 1) := by decide +kernel
theorem dX8_planOf_34 : decode cX8_planOf 34 = .ok (.if_icmp .ge 125, 3) := by decide +kernel
theorem dX8_planOf_37 : decode cX8_planOf 37 = .ok (.aload_n 0, 1) := by decide +kernel
theorem dX8_planOf_38 : decode cX8_planOf 38 = .ok (.iload_n 1, 1) := by decide +kernel
theorem dX8_planOf_39 : decode cX8_planOf 39 = .ok (.iconst 1, 1) := by decide +kernel
theorem dX8_planOf_40 : decode cX8_planOf 40 = .ok (.invokevirtual 94, 3) := by decide +kernel
theorem dX8_planOf_43 : decode cX8_planOf 43 = .ok (.iload 5, 2) := by decide +kernel
theorem dX8_planOf_45 : decode cX8_planOf 45 = .ok (.iadd, 1) := by decide +kernel
theorem dX8_planOf_46 : decode cX8_planOf 46 = .ok (.istore 6, 2) := by decide +kernel
theorem dX8_planOf_48 : decode cX8_planOf 48 = .ok (.iconst 0, 1) := by decide +kernel
theorem dX8_planOf_49 : decode cX8_planOf 49 = .ok (.istore 7, 2) := by decide +kernel
theorem dX8_planOf_51 : decode cX8_planOf 51 = .ok (.iload 4, 2) := by decide +kernel
theorem dX8_planOf_53 : decode cX8_planOf 53 = .ok (.iload 7, 2) := by decide +kernel
theorem dX8_planOf_55 : decode cX8_planOf 55 = .ok (.iload_n 3, 1) := by decide +kernel
theorem dX8_planOf_56 : decode cX8_planOf 56 = .ok (.if_icmp .ne 7, 3) := by decide +kernel
theorem dX8_planOf_59 : decode cX8_planOf 59 = .ok (.iconst 1, 1) := by decide +kernel
theorem dX8_planOf_60 : decode cX8_planOf 60 = .ok (.goto 4, 3) := by decide +kernel
theorem dX8_planOf_63 : decode cX8_planOf 63 = .ok (.iconst 0, 1) := by decide +kernel
theorem dX8_planOf_64 : decode cX8_planOf 64 = .ok (.isub, 1) := by decide +kernel
theorem dX8_planOf_65 : decode cX8_planOf 65 = .ok (.ifCond .lt 54, 3) := by decide +kernel
theorem dX8_planOf_68 : decode cX8_planOf 68 = .ok (.iconst 1, 1) := by decide +kernel
theorem dX8_planOf_69 : decode cX8_planOf 69 = .ok (.aload_n 0, 1) := by decide +kernel
theorem dX8_planOf_70 : decode cX8_planOf 70 = .ok (.iload 5, 2) := by decide +kernel
theorem dX8_planOf_72 : decode cX8_planOf 72 = .ok (.iconst 1, 1) := by decide +kernel
theorem dX8_planOf_73 : decode cX8_planOf 73 = .ok (.iadd, 1) := by decide +kernel
theorem dX8_planOf_74 : decode cX8_planOf 74 = .ok (.iload 7, 2) := by decide +kernel
theorem dX8_planOf_76 : decode cX8_planOf 76 = .ok (.iload 4, 2) := by decide +kernel
theorem dX8_planOf_78 : decode cX8_planOf 78 = .ok (.iload 7, 2) := by decide +kernel
theorem dX8_planOf_80 : decode cX8_planOf 80 = .ok (.iload_n 3, 1) := by decide +kernel
theorem dX8_planOf_81 : decode cX8_planOf 81 = .ok (.if_icmp .ne 7, 3) := by decide +kernel
theorem dX8_planOf_84 : decode cX8_planOf 84 = .ok (.iconst 1, 1) := by decide +kernel
theorem dX8_planOf_85 : decode cX8_planOf 85 = .ok (.goto 4, 3) := by decide +kernel
theorem dX8_planOf_88 : decode cX8_planOf 88 = .ok (.iconst 0, 1) := by decide +kernel
theorem dX8_planOf_89 : decode cX8_planOf 89 = .ok (.isub, 1) := by decide +kernel
theorem dX8_planOf_90 : decode cX8_planOf 90 = .ok (.invokevirtual 120, 3) := by decide +kernel
theorem dX8_planOf_93 : decode cX8_planOf 93 = .ok (.iadd, 1) := by decide +kernel
theorem dX8_planOf_94 : decode cX8_planOf 94 = .ok (.aload_n 0, 1) := by decide +kernel
theorem dX8_planOf_95 : decode cX8_planOf 95 = .ok (.iload 5, 2) := by decide +kernel
theorem dX8_planOf_97 : decode cX8_planOf 97 = .ok (.iload_n 3, 1) := by decide +kernel
theorem dX8_planOf_98 : decode cX8_planOf 98 = .ok (.iload 4, 2) := by decide +kernel
theorem dX8_planOf_100 : decode cX8_planOf 100 = .ok (.invokevirtual 120, 3) := by decide +kernel
theorem dX8_planOf_103 : decode cX8_planOf 103 = .ok (.if_icmp .ne 16, 3) := by decide +kernel
theorem dX8_planOf_106 : decode cX8_planOf 106 = .ok (.aload_n 0, 1) := by decide +kernel
theorem dX8_planOf_107 : decode cX8_planOf 107 = .ok (.iload_n 1, 1) := by decide +kernel
theorem dX8_planOf_108 : decode cX8_planOf 108 = .ok (.iload_n 3, 1) := by decide +kernel
theorem dX8_planOf_109 : decode cX8_planOf 109 = .ok (.iload 7, 2) := by decide +kernel
theorem dX8_planOf_111 : decode cX8_planOf 111 = .ok (.iload 6, 2) := by decide +kernel
theorem dX8_planOf_113 : decode cX8_planOf 113 = .ok (.invokevirtual 126, 3) := by decide +kernel
theorem dX8_planOf_116 : decode cX8_planOf 116 = .ok (.ifCond .ne 9, 3) := by decide +kernel
theorem dX8_planOf_119 : decode cX8_planOf 119 = .ok (.iinc 7 1, 3) := by decide +kernel
theorem dX8_planOf_122 : decode cX8_planOf 122 = .ok (.goto (-71), 3) := by decide +kernel
theorem dX8_planOf_125 : decode cX8_planOf 125 = .ok (.iload 4, 2) := by decide +kernel
theorem dX8_planOf_127 : decode cX8_planOf 127 = .ok (.iload 7, 2) := by decide +kernel
theorem dX8_planOf_129 : decode cX8_planOf 129 = .ok (.iload_n 3, 1) := by decide +kernel
theorem dX8_planOf_130 : decode cX8_planOf 130 = .ok (.if_icmp .ne 7, 3) := by decide +kernel
theorem dX8_planOf_133 : decode cX8_planOf 133 = .ok (.iconst 1, 1) := by decide +kernel
theorem dX8_planOf_134 : decode cX8_planOf 134 = .ok (.goto 4, 3) := by decide +kernel
theorem dX8_planOf_137 : decode cX8_planOf 137 = .ok (.iconst 0, 1) := by decide +kernel
theorem dX8_planOf_138 : decode cX8_planOf 138 = .ok (.isub, 1) := by decide +kernel
theorem dX8_planOf_139 : decode cX8_planOf 139 = .ok (.istore 4, 2) := by decide +kernel
theorem dX8_planOf_141 : decode cX8_planOf 141 = .ok (.iload 7, 2) := by decide +kernel
theorem dX8_planOf_143 : decode cX8_planOf 143 = .ok (.istore_n 3, 1) := by decide +kernel
theorem dX8_planOf_144 : decode cX8_planOf 144 = .ok (.aload_n 0, 1) := by decide +kernel
theorem dX8_planOf_145 : decode cX8_planOf 145 = .ok (.getfield 28, 3) := by decide +kernel
theorem dX8_planOf_148 : decode cX8_planOf 148 = .ok (.iload 5, 2) := by decide +kernel
theorem dX8_planOf_150 : decode cX8_planOf 150 = .ok (.iload 7, 2) := by decide +kernel
theorem dX8_planOf_152 : decode cX8_planOf 152 = .ok (.iastore, 1) := by decide +kernel
theorem dX8_planOf_153 : decode cX8_planOf 153 = .ok (.iinc 5 1, 3) := by decide +kernel
theorem dX8_planOf_156 : decode cX8_planOf 156 = .ok (.goto (-127), 3) := by decide +kernel
theorem dX8_planOf_159 : decode cX8_planOf 159 = .ok (.iload_n 2, 1) := by decide +kernel
theorem dX8_planOf_160 : decode cX8_planOf 160 = .ok (.ireturn, 1) := by decide +kernel
theorem dX8_plan_0 : decode cX8_plan 0 = .ok (.aload_n 0, 1) := by decide +kernel
theorem dX8_plan_1 : decode cX8_plan 1 = .ok (.iload_n 1, 1) := by decide +kernel
theorem dX8_plan_2 : decode cX8_plan 2 = .ok (.invokevirtual 91, 3) := by decide +kernel
theorem dX8_plan_5 : decode cX8_plan 5 = .ok (.ifCond .ne 10, 3) := by decide +kernel
theorem dX8_plan_8 : decode cX8_plan 8 = .ok (.aload_n 0, 1) := by decide +kernel
theorem dX8_plan_9 : decode cX8_plan 9 = .ok (.ldc 67, 2) := by decide +kernel
theorem dX8_plan_11 : decode cX8_plan 11 = .ok (.invokevirtual 56, 3) := by decide +kernel
theorem dX8_plan_14 : decode cX8_plan 14 = .ok (.ireturn, 1) := by decide +kernel
theorem dX8_plan_15 : decode cX8_plan 15 = .ok (.aload_n 0, 1) := by decide +kernel
theorem dX8_plan_16 : decode cX8_plan 16 = .ok (.iload_n 1, 1) := by decide +kernel
theorem dX8_plan_17 : decode cX8_plan 17 = .ok (.invokevirtual 129, 3) := by decide +kernel
theorem dX8_plan_20 : decode cX8_plan 20 = .ok (.istore_n 2, 1) := by decide +kernel
theorem dX8_plan_21 : decode cX8_plan 21 = .ok (.iload_n 2, 1) := by decide +kernel
theorem dX8_plan_22 : decode cX8_plan 22 = .ok (.sipush 1000, 3) := by decide +kernel
theorem dX8_plan_25 : decode cX8_plan 25 = .ok (.if_icmp .ne 12, 3) := by decide +kernel
theorem dX8_plan_28 : decode cX8_plan 28 = .ok (.aload_n 0, 1) := by decide +kernel
theorem dX8_plan_29 : decode cX8_plan 29 = .ok (.ldc 55, 2) := by decide +kernel
theorem dX8_plan_31 : decode cX8_plan 31 = .ok (.invokevirtual 56, 3) := by decide +kernel
theorem dX8_plan_34 : decode cX8_plan 34 = .ok (.goto 4, 3) := by decide +kernel
theorem dX8_plan_37 : decode cX8_plan 37 = .ok (.iload_n 2, 1) := by decide +kernel
theorem dX8_plan_38 : decode cX8_plan 38 = .ok (.ireturn, 1) := by decide +kernel
theorem dX8_planned_0 : decode cX8_planned 0 = .ok (.aload_n 0, 1) := by decide +kernel
theorem dX8_planned_1 : decode cX8_planned 1 = .ok (.iload_n 1, 1) := by decide +kernel
theorem dX8_planned_2 : decode cX8_planned 2 = .ok (.invokevirtual 91, 3) := by decide +kernel
theorem dX8_planned_5 : decode cX8_planned 5 = .ok (.ifCond .ne 10, 3) := by decide +kernel
theorem dX8_planned_8 : decode cX8_planned 8 = .ok (.aload_n 0, 1) := by decide +kernel
theorem dX8_planned_9 : decode cX8_planned 9 = .ok (.ldc 67, 2) := by decide +kernel
theorem dX8_planned_11 : decode cX8_planned 11 = .ok (.invokevirtual 56, 3) := by decide +kernel
theorem dX8_planned_14 : decode cX8_planned 14 = .ok (.ireturn, 1) := by decide +kernel
theorem dX8_planned_15 : decode cX8_planned 15 = .ok (.aload_n 0, 1) := by decide +kernel
theorem dX8_planned_16 : decode cX8_planned 16 = .ok (.iload_n 1, 1) := by decide +kernel
theorem dX8_planned_17 : decode cX8_planned 17 = .ok (.invokevirtual 132, 3) := by decide +kernel
theorem dX8_planned_20 : decode cX8_planned 20 = .ok (.istore_n 3, 1) := by decide +kernel
theorem dX8_planned_21 : decode cX8_planned 21 = .ok (.iload_n 3, 1) := by decide +kernel
theorem dX8_planned_22 : decode cX8_planned 22 = .ok (.sipush 1000, 3) := by decide +kernel
theorem dX8_planned_25 : decode cX8_planned 25 = .ok (.if_icmp .ne 10, 3) := by decide +kernel
theorem dX8_planned_28 : decode cX8_planned 28 = .ok (.aload_n 0, 1) := by decide +kernel
theorem dX8_planned_29 : decode cX8_planned 29 = .ok (.ldc 55, 2) := by decide +kernel
theorem dX8_planned_31 : decode cX8_planned 31 = .ok (.invokevirtual 56, 3) := by decide +kernel
theorem dX8_planned_34 : decode cX8_planned 34 = .ok (.ireturn, 1) := by decide +kernel
theorem dX8_planned_35 : decode cX8_planned 35 = .ok (.iload_n 2, 1) := by decide +kernel
theorem dX8_planned_36 : decode cX8_planned 36 = .ok (.ifCond .lt 8, 3) := by decide +kernel
theorem dX8_planned_39 : decode cX8_planned 39 = .ok (.iload_n 2, 1) := by decide +kernel
theorem dX8_planned_40 : decode cX8_planned 40 = .ok (.iload_n 3, 1) := by decide +kernel
theorem dX8_planned_41 : decode cX8_planned 41 = .ok (.if_icmp .lt 10, 3) := by decide +kernel
theorem dX8_planned_44 : decode cX8_planned 44 = .ok (.aload_n 0, 1) := by decide +kernel
theorem dX8_planned_45 : decode cX8_planned 45 = .ok (.ldc 67, 2) := by decide +kernel
theorem dX8_planned_47 : decode cX8_planned 47 = .ok (.invokevirtual 56, 3) := by decide +kernel
theorem dX8_planned_50 : decode cX8_planned 50 = .ok (.ireturn, 1) := by decide +kernel
theorem dX8_planned_51 : decode cX8_planned 51 = .ok (.iload_n 2, 1) := by decide +kernel
theorem dX8_planned_52 : decode cX8_planned 52 = .ok (.iload_n 3, 1) := by decide +kernel
theorem dX8_planned_53 : decode cX8_planned 53 = .ok (.iconst 1, 1) := by decide +kernel
theorem dX8_planned_54 : decode cX8_planned 54 = .ok (.isub, 1) := by decide +kernel
theorem dX8_planned_55 : decode cX8_planned 55 = .ok (.if_icmp .ne 7, 3) := by decide +kernel
theorem dX8_planned_58 : decode cX8_planned 58 = .ok (.iconst (-1), 1) := by decide +kernel
theorem dX8_planned_59 : decode cX8_planned 59 = .ok (.goto 9, 3) := by decide +kernel
theorem dX8_planned_62 : decode cX8_planned 62 = .ok (.aload_n 0, 1) := by decide +kernel
theorem dX8_planned_63 : decode cX8_planned 63 = .ok (.getfield 28, 3) := by decide +kernel
theorem dX8_planned_66 : decode cX8_planned 66 = .ok (.iload_n 2, 1) := by decide +kernel
theorem dX8_planned_67 : decode cX8_planned 67 = .ok (.iaload, 1) := by decide +kernel
theorem dX8_planned_68 : decode cX8_planned 68 = .ok (.ireturn, 1) := by decide +kernel
theorem dX8_lay_0 : decode cX8_lay 0 = .ok (.aload_n 0, 1) := by decide +kernel
theorem dX8_lay_1 : decode cX8_lay 1 = .ok (.iload_n 1, 1) := by decide +kernel
theorem dX8_lay_2 : decode cX8_lay 2 = .ok (.invokevirtual 87, 3) := by decide +kernel
theorem dX8_lay_5 : decode cX8_lay 5 = .ok (.iconst 0, 1) := by decide +kernel
theorem dX8_lay_6 : decode cX8_lay 6 = .ok (.istore_n 3, 1) := by decide +kernel
theorem dX8_lay_7 : decode cX8_lay 7 = .ok (.iload_n 3, 1) := by decide +kernel
theorem dX8_lay_8 : decode cX8_lay 8 = .ok (.iconst 1, 1) := by decide +kernel
theorem dX8_lay_9 : decode cX8_lay 9 = .ok (.iadd, 1) := by decide +kernel
theorem dX8_lay_10 : decode cX8_lay 10 = .ok (.iload_n 2, 1) := by decide +kernel
theorem dX8_lay_11 : decode cX8_lay 11 = .ok (.if_icmp .ge 37, 3) := by decide +kernel
theorem dX8_lay_14 : decode cX8_lay 14 = .ok (.aload_n 0, 1) := by decide +kernel
theorem dX8_lay_15 : decode cX8_lay 15 = .ok (.getfield 7, 3) := by decide +kernel
theorem dX8_lay_18 : decode cX8_lay 18 = .ok (.sipush 244, 3) := by decide +kernel
theorem dX8_lay_21 : decode cX8_lay 21 = .ok (.bipush 30, 2) := by decide +kernel
theorem dX8_lay_23 : decode cX8_lay 23 = .ok (.iload_n 1, 1) := by decide +kernel
theorem dX8_lay_24 : decode cX8_lay 24 = .ok (.imul, 1) := by decide +kernel
theorem dX8_lay_25 : decode cX8_lay 25 = .ok (.iadd, 1) := by decide +kernel
theorem dX8_lay_26 : decode cX8_lay 26 = .ok (.aload_n 0, 1) := by decide +kernel
theorem dX8_lay_27 : decode cX8_lay 27 = .ok (.iload_n 1, 1) := by decide +kernel
theorem dX8_lay_28 : decode cX8_lay 28 = .ok (.iconst 1, 1) := by decide +kernel
theorem dX8_lay_29 : decode cX8_lay 29 = .ok (.invokevirtual 94, 3) := by decide +kernel
theorem dX8_lay_32 : decode cX8_lay 32 = .ok (.iadd, 1) := by decide +kernel
theorem dX8_lay_33 : decode cX8_lay 33 = .ok (.iload_n 3, 1) := by decide +kernel
theorem dX8_lay_34 : decode cX8_lay 34 = .ok (.iadd, 1) := by decide +kernel
theorem dX8_lay_35 : decode cX8_lay 35 = .ok (.aload_n 0, 1) := by decide +kernel
theorem dX8_lay_36 : decode cX8_lay 36 = .ok (.getfield 28, 3) := by decide +kernel
theorem dX8_lay_39 : decode cX8_lay 39 = .ok (.iload_n 3, 1) := by decide +kernel
theorem dX8_lay_40 : decode cX8_lay 40 = .ok (.iaload, 1) := by decide +kernel
theorem dX8_lay_41 : decode cX8_lay 41 = .ok (.iastore, 1) := by decide +kernel
theorem dX8_lay_42 : decode cX8_lay 42 = .ok (.iinc 3 1, 3) := by decide +kernel
theorem dX8_lay_45 : decode cX8_lay 45 = .ok (.goto (-38), 3) := by decide +kernel
theorem dX8_lay_48 : decode cX8_lay 48 = .ok (.return_, 1) := by decide +kernel
theorem dX8_take_0 : decode cX8_take 0 = .ok (.aload_n 0, 1) := by decide +kernel
theorem dX8_take_1 : decode cX8_take 1 = .ok (.iload_n 1, 1) := by decide +kernel
theorem dX8_take_2 : decode cX8_take 2 = .ok (.invokevirtual 91, 3) := by decide +kernel
theorem dX8_take_5 : decode cX8_take 5 = .ok (.ifCond .ne 10, 3) := by decide +kernel
theorem dX8_take_8 : decode cX8_take 8 = .ok (.aload_n 0, 1) := by decide +kernel
theorem dX8_take_9 : decode cX8_take 9 = .ok (.ldc 67, 2) := by decide +kernel
theorem dX8_take_11 : decode cX8_take 11 = .ok (.invokevirtual 56, 3) := by decide +kernel
theorem dX8_take_14 : decode cX8_take 14 = .ok (.ireturn, 1) := by decide +kernel
theorem dX8_take_15 : decode cX8_take 15 = .ok (.aload_n 0, 1) := by decide +kernel
theorem dX8_take_16 : decode cX8_take 16 = .ok (.iload_n 1, 1) := by decide +kernel
theorem dX8_take_17 : decode cX8_take 17 = .ok (.invokevirtual 132, 3) := by decide +kernel
theorem dX8_take_20 : decode cX8_take 20 = .ok (.istore_n 2, 1) := by decide +kernel
theorem dX8_take_21 : decode cX8_take 21 = .ok (.iload_n 2, 1) := by decide +kernel
theorem dX8_take_22 : decode cX8_take 22 = .ok (.sipush 1000, 3) := by decide +kernel
theorem dX8_take_25 : decode cX8_take 25 = .ok (.if_icmp .ne 10, 3) := by decide +kernel
theorem dX8_take_28 : decode cX8_take 28 = .ok (.aload_n 0, 1) := by decide +kernel
theorem dX8_take_29 : decode cX8_take 29 = .ok (.ldc 55, 2) := by decide +kernel
theorem dX8_take_31 : decode cX8_take 31 = .ok (.invokevirtual 56, 3) := by decide +kernel
theorem dX8_take_34 : decode cX8_take 34 = .ok (.ireturn, 1) := by decide +kernel
theorem dX8_take_35 : decode cX8_take 35 = .ok (.aload_n 0, 1) := by decide +kernel
theorem dX8_take_36 : decode cX8_take 36 = .ok (.invokevirtual 60, 3) := by decide +kernel
theorem dX8_take_39 : decode cX8_take 39 = .ok (.aload_n 0, 1) := by decide +kernel
theorem dX8_take_40 : decode cX8_take 40 = .ok (.iload_n 1, 1) := by decide +kernel
theorem dX8_take_41 : decode cX8_take 41 = .ok (.iload_n 2, 1) := by decide +kernel
theorem dX8_take_42 : decode cX8_take 42 = .ok (.invokevirtual 135, 3) := by decide +kernel
theorem dX8_take_45 : decode cX8_take 45 = .ok (.iload_n 2, 1) := by decide +kernel
theorem dX8_take_46 : decode cX8_take 46 = .ok (.iconst 1, 1) := by decide +kernel
theorem dX8_take_47 : decode cX8_take 47 = .ok (.isub, 1) := by decide +kernel
theorem dX8_take_48 : decode cX8_take 48 = .ok (.ireturn, 1) := by decide +kernel
theorem dX8_calendarOf_0 : decode cX8_calendarOf 0 = .ok (.iconst 0, 1) := by decide +kernel
theorem dX8_calendarOf_1 : decode cX8_calendarOf 1 = .ok (.istore_n 2, 1) := by decide +kernel
theorem dX8_calendarOf_2 : decode cX8_calendarOf 2 = .ok (.iload_n 2, 1) := by decide +kernel
theorem dX8_calendarOf_3 : decode cX8_calendarOf 3 = .ok (.aload_n 0, 1) := by decide +kernel
theorem dX8_calendarOf_4 : decode cX8_calendarOf 4 = .ok (.getfield 7, 3) := by decide +kernel
theorem dX8_calendarOf_7 : decode cX8_calendarOf 7 = .ok (.iconst 5, 1) := by decide +kernel
theorem dX8_calendarOf_8 : decode cX8_calendarOf 8 = .ok (.iaload, 1) := by decide +kernel
theorem dX8_calendarOf_9 : decode cX8_calendarOf 9 = .ok (.if_icmp .ge 23, 3) := by decide +kernel
theorem dX8_calendarOf_12 : decode cX8_calendarOf 12 = .ok (.iload_n 1, 1) := by decide +kernel
theorem dX8_calendarOf_13 : decode cX8_calendarOf 13 = .ok (.iload_n 2, 1) := by decide +kernel
theorem dX8_calendarOf_14 : decode cX8_calendarOf 14 = .ok (.ishr, 1) := by decide +kernel
theorem dX8_calendarOf_15 : decode cX8_calendarOf 15 = .ok (.iconst 1, 1) := by decide +kernel
theorem dX8_calendarOf_16 : decode cX8_calendarOf 16 = .ok (.iand, 1) := by decide +kernel
theorem dX8_calendarOf_17 : decode cX8_calendarOf 17 = .ok (.iconst 1, 1) := by decide +kernel
theorem dX8_calendarOf_18 : decode cX8_calendarOf 18 = .ok (.if_icmp .ne 8, 3) := by decide +kernel
theorem dX8_calendarOf_21 : decode cX8_calendarOf 21 = .ok (.aload_n 0, 1) := by decide +kernel
theorem dX8_calendarOf_22 : decode cX8_calendarOf 22 = .ok (.iload_n 2, 1) := by decide +kernel
theorem dX8_calendarOf_23 : decode cX8_calendarOf 23 = .ok (.invokevirtual 87, 3) := by decide +kernel
theorem dX8_calendarOf_26 : decode cX8_calendarOf 26 = .ok (.iinc 2 1, 3) := by decide +kernel
theorem dX8_calendarOf_29 : decode cX8_calendarOf 29 = .ok (.goto (-27), 3) := by decide +kernel
theorem dX8_calendarOf_32 : decode cX8_calendarOf 32 = .ok (.iconst 0, 1) := by decide +kernel
theorem dX8_calendarOf_33 : decode cX8_calendarOf 33 = .ok (.istore_n 2, 1) := by decide +kernel
theorem dX8_calendarOf_34 : decode cX8_calendarOf 34 = .ok (.iconst 0, 1) := by decide +kernel
theorem dX8_calendarOf_35 : decode cX8_calendarOf 35 = .ok (.istore_n 3, 1) := by decide +kernel
theorem dX8_calendarOf_36 : decode cX8_calendarOf 36 = .ok (.iload_n 3, 1) := by decide +kernel
theorem dX8_calendarOf_37 : decode cX8_calendarOf 37 = .ok (.aload_n 0, 1) := by decide +kernel
theorem dX8_calendarOf_38 : decode cX8_calendarOf 38 = .ok (.getfield 7, 3) := by decide +kernel
theorem dX8_calendarOf_41 : decode cX8_calendarOf 41 = .ok (.iconst 5, 1) := by decide +kernel
theorem dX8_calendarOf_42 : decode cX8_calendarOf 42 = .ok (.iaload, 1) := by decide +kernel
theorem dX8_calendarOf_43 : decode cX8_calendarOf 43 = .ok (.if_icmp .ge 60, 3) := by decide +kernel
theorem dX8_calendarOf_46 : decode cX8_calendarOf 46 = .ok (.iload_n 1, 1) := by decide +kernel
theorem dX8_calendarOf_47 : decode cX8_calendarOf 47 = .ok (.iload_n 3, 1) := by decide +kernel
theorem dX8_calendarOf_48 : decode cX8_calendarOf 48 = .ok (.ishr, 1) := by decide +kernel
theorem dX8_calendarOf_49 : decode cX8_calendarOf 49 = .ok (.iconst 1, 1) := by decide +kernel
theorem dX8_calendarOf_50 : decode cX8_calendarOf 50 = .ok (.iand, 1) := by decide +kernel
theorem dX8_calendarOf_51 : decode cX8_calendarOf 51 = .ok (.iconst 1, 1) := by decide +kernel
theorem dX8_calendarOf_52 : decode cX8_calendarOf 52 = .ok (.if_icmp .ne 45, 3) := by decide +kernel
theorem dX8_calendarOf_55 : decode cX8_calendarOf 55 = .ok (.aload_n 0, 1) := by decide +kernel
theorem dX8_calendarOf_56 : decode cX8_calendarOf 56 = .ok (.iload_n 3, 1) := by decide +kernel
theorem dX8_calendarOf_57 : decode cX8_calendarOf 57 = .ok (.invokevirtual 132, 3) := by decide +kernel
theorem dX8_calendarOf_60 : decode cX8_calendarOf 60 = .ok (.istore 4, 2) := by decide +kernel
theorem dX8_calendarOf_62 : decode cX8_calendarOf 62 = .ok (.iload_n 2, 1) := by decide +kernel
theorem dX8_calendarOf_63 : decode cX8_calendarOf 63 = .ok (.iload 4, 2) := by decide +kernel
theorem dX8_calendarOf_65 : decode cX8_calendarOf 65 = .ok (.sipush 1000, 3) := by decide +kernel
theorem dX8_calendarOf_68 : decode cX8_calendarOf 68 = .ok (.if_icmp .ge 7, 3) := by decide +kernel
theorem dX8_calendarOf_71 : decode cX8_calendarOf 71 = .ok (.iconst 1, 1) := by decide +kernel
theorem dX8_calendarOf_72 : decode cX8_calendarOf 72 = .ok (.goto 4, 3) := by decide +kernel
theorem dX8_calendarOf_75 : decode cX8_calendarOf 75 = .ok (.iconst 0, 1) := by decide +kernel
theorem dX8_calendarOf_76 : decode cX8_calendarOf 76 = .ok (.iadd, 1) := by decide +kernel
theorem dX8_calendarOf_77 : decode cX8_calendarOf 77 = .ok (.istore_n 2, 1) := by decide +kernel
theorem dX8_calendarOf_78 : decode cX8_calendarOf 78 = .ok (.aload_n 0, 1) := by decide +kernel
theorem dX8_calendarOf_79 : decode cX8_calendarOf 79 = .ok (.iload_n 3, 1) := by decide +kernel
theorem dX8_calendarOf_80 : decode cX8_calendarOf 80 = .ok (.iload 4, 2) := by decide +kernel
theorem dX8_calendarOf_82 : decode cX8_calendarOf 82 = .ok (.sipush 1000, 3) := by decide +kernel
theorem dX8_calendarOf_85 : decode cX8_calendarOf 85 = .ok (.if_icmp .ge 8, 3) := by decide +kernel
theorem dX8_calendarOf_88 : decode cX8_calendarOf 88 = .ok (.iload 4, 2) := by decide +kernel
theorem dX8_calendarOf_90 : decode cX8_calendarOf 90 = .ok (.goto 4, 3) := by decide +kernel
theorem dX8_calendarOf_93 : decode cX8_calendarOf 93 = .ok (.iconst 0, 1) := by decide +kernel
theorem dX8_calendarOf_94 : decode cX8_calendarOf 94 = .ok (.invokevirtual 135, 3) := by decide +kernel
theorem dX8_calendarOf_97 : decode cX8_calendarOf 97 = .ok (.iinc 3 1, 3) := by decide +kernel
theorem dX8_calendarOf_100 : decode cX8_calendarOf 100 = .ok (.goto (-64), 3) := by decide +kernel
theorem dX8_calendarOf_103 : decode cX8_calendarOf 103 = .ok (.iload_n 2, 1) := by decide +kernel
theorem dX8_calendarOf_104 : decode cX8_calendarOf 104 = .ok (.ireturn, 1) := by decide +kernel
theorem dX8_isSet_0 : decode cX8_isSet 0 = .ok (.iload_n 1, 1) := by decide +kernel
theorem dX8_isSet_1 : decode cX8_isSet 1 = .ok (.iconst 0, 1) := by decide +kernel
theorem dX8_isSet_2 : decode cX8_isSet 2 = .ok (.iconst 1, 1) := by decide +kernel
theorem dX8_isSet_3 : decode cX8_isSet 3 = .ok (.aload_n 0, 1) := by decide +kernel
theorem dX8_isSet_4 : decode cX8_isSet 4 = .ok (.getfield 7, 3) := by decide +kernel
