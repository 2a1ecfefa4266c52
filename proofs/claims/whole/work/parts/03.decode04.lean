theorem dX7_all_44 : decode cX7_all 44 = .ok (.getfield 72, 3) := by decide +kernel
theorem dX7_all_47 : decode cX7_all 47 = .ok (.iconst 0, 1) := by decide +kernel
theorem dX7_all_48 : decode cX7_all 48 = .ok (.iaload, 1) := by decide +kernel
theorem dX7_all_49 : decode cX7_all 49 = .ok (.ireturn, 1) := by decide +kernel
theorem dX7_all_50 : decode cX7_all 50 = .ok (.aload_n 0, 1) := by decide +kernel
theorem dX7_all_51 : decode cX7_all 51 = .ok (.getfield 10, 3) := by decide +kernel
theorem dX7_all_54 : decode cX7_all 54 = .ok (.getfield 72, 3) := by decide +kernel
theorem dX7_all_57 : decode cX7_all 57 = .ok (.iconst 1, 1) := by decide +kernel
theorem dX7_all_58 : decode cX7_all 58 = .ok (.iaload, 1) := by decide +kernel
theorem dX7_all_59 : decode cX7_all 59 = .ok (.ireturn, 1) := by decide +kernel
theorem dX7_all_60 : decode cX7_all 60 = .ok (.aload_n 0, 1) := by decide +kernel
theorem dX7_all_61 : decode cX7_all 61 = .ok (.getfield 10, 3) := by decide +kernel
theorem dX7_all_64 : decode cX7_all 64 = .ok (.getfield 72, 3) := by decide +kernel
theorem dX7_all_67 : decode cX7_all 67 = .ok (.iconst 2, 1) := by decide +kernel
theorem dX7_all_68 : decode cX7_all 68 = .ok (.iaload, 1) := by decide +kernel
theorem dX7_all_69 : decode cX7_all 69 = .ok (.ireturn, 1) := by decide +kernel
theorem dX7_all_70 : decode cX7_all 70 = .ok (.aload_n 0, 1) := by decide +kernel
theorem dX7_all_71 : decode cX7_all 71 = .ok (.getfield 19, 3) := by decide +kernel
theorem dX7_all_74 : decode cX7_all 74 = .ok (.invokevirtual 119, 3) := by decide +kernel
theorem dX7_all_77 : decode cX7_all 77 = .ok (.ireturn, 1) := by decide +kernel
theorem dX7_all_78 : decode cX7_all 78 = .ok (.aload_n 0, 1) := by decide +kernel
theorem dX7_all_79 : decode cX7_all 79 = .ok (.getfield 33, 3) := by decide +kernel
theorem dX7_all_82 : decode cX7_all 82 = .ok (.invokevirtual 202, 3) := by decide +kernel
theorem dX7_all_85 : decode cX7_all 85 = .ok (.ireturn, 1) := by decide +kernel
theorem dX7_all_86 : decode cX7_all 86 = .ok (.aload_n 0, 1) := by decide +kernel
theorem dX7_all_87 : decode cX7_all 87 = .ok (.getfield 50, 3) := by decide +kernel
theorem dX7_all_90 : decode cX7_all 90 = .ok (.ireturn, 1) := by decide +kernel
theorem dX7_all_91 : decode cX7_all 91 = .ok (.aload_n 0, 1) := by decide +kernel
theorem dX7_all_92 : decode cX7_all 92 = .ok (.ldc 59, 2) := by decide +kernel
theorem dX7_all_94 : decode cX7_all 94 = .ok (.invokevirtual 60, 3) := by decide +kernel
theorem dX7_all_97 : decode cX7_all 97 = .ok (.ireturn, 1) := by decide +kernel
theorem dX7_finding_0 : decode cX7_finding 0 = .ok (.aload_n 0, 1) := by decide +kernel
theorem dX7_finding_1 : decode cX7_finding 1 = .ok (.dup, 1) := by decide +kernel
theorem dX7_finding_2 : decode cX7_finding 2 = .ok (.getfield 50, 3) := by decide +kernel
theorem dX7_finding_5 : decode cX7_finding 5 = .ok (.iconst 1, 1) := by decide +kernel
theorem dX7_finding_6 : decode cX7_finding 6 = .ok (.iadd, 1) := by decide +kernel
theorem dX7_finding_7 : decode cX7_finding 7 = .ok (.putfield 50, 3) := by decide +kernel
theorem dX7_finding_10 : decode cX7_finding 10 = .ok (.iload_n 1, 1) := by decide +kernel
theorem dX7_finding_11 : decode cX7_finding 11 = .ok (.ireturn, 1) := by decide +kernel
theorem dX7_change_0 : decode cX7_change 0 = .ok (.aload_n 0, 1) := by decide +kernel
theorem dX7_change_1 : decode cX7_change 1 = .ok (.getfield 40, 3) := by decide +kernel
theorem dX7_change_4 : decode cX7_change 4 = .ok (.aload_n 1, 1) := by decide +kernel
theorem dX7_change_5 : decode cX7_change 5 = .ok (.iload_n 2, 1) := by decide +kernel
theorem dX7_change_6 : decode cX7_change 6 = .ok (.iconst 1, 1) := by decide +kernel
theorem dX7_change_7 : decode cX7_change 7 = .ok (.invokevirtual 260, 3) := by decide +kernel
theorem dX7_change_10 : decode cX7_change 10 = .ok (.aload_n 1, 1) := by decide +kernel
theorem dX7_change_11 : decode cX7_change 11 = .ok (.iload_n 2, 1) := by decide +kernel
theorem dX7_change_12 : decode cX7_change 12 = .ok (.iaload, 1) := by decide +kernel
theorem dX7_change_13 : decode cX7_change 13 = .ok (.istore 4, 2) := by decide +kernel
theorem dX7_change_15 : decode cX7_change 15 = .ok (.aload_n 1, 1) := by decide +kernel
theorem dX7_change_16 : decode cX7_change 16 = .ok (.iload_n 2, 1) := by decide +kernel
theorem dX7_change_17 : decode cX7_change 17 = .ok (.iload_n 3, 1) := by decide +kernel
theorem dX7_change_18 : decode cX7_change 18 = .ok (.iastore, 1) := by decide +kernel
theorem dX7_change_19 : decode cX7_change 19 = .ok (.iload 4, 2) := by decide +kernel
theorem dX7_change_21 : decode cX7_change 21 = .ok (.ireturn, 1) := by decide +kernel
theorem dX7_keepTrips_0 : decode cX7_keepTrips 0 = .ok (.aload_n 0, 1) := by decide +kernel
theorem dX7_keepTrips_1 : decode cX7_keepTrips 1 = .ok (.getfield 40, 3) := by decide +kernel
theorem dX7_keepTrips_4 : decode cX7_keepTrips 4 = .ok (.aload_n 0, 1) := by decide +kernel
theorem dX7_keepTrips_5 : decode cX7_keepTrips 5 = .ok (.getfield 19, 3) := by decide +kernel
theorem dX7_keepTrips_8 : decode cX7_keepTrips 8 = .ok (.getfield 159, 3) := by decide +kernel
theorem dX7_keepTrips_11 : decode cX7_keepTrips 11 = .ok (.aload_n 0, 1) := by decide +kernel
theorem dX7_keepTrips_12 : decode cX7_keepTrips 12 = .ok (.getfield 19, 3) := by decide +kernel
theorem dX7_keepTrips_15 : decode cX7_keepTrips 15 = .ok (.iload_n 1, 1) := by decide +kernel
theorem dX7_keepTrips_16 : decode cX7_keepTrips 16 = .ok (.iconst 0, 1) := by decide +kernel
theorem dX7_keepTrips_17 : decode cX7_keepTrips 17 = .ok (.invokevirtual 162, 3) := by decide +kernel
theorem dX7_keepTrips_20 : decode cX7_keepTrips 20 = .ok (.iload_n 2, 1) := by decide +kernel
theorem dX7_keepTrips_21 : decode cX7_keepTrips 21 = .ok (.bipush 35, 2) := by decide +kernel
theorem dX7_keepTrips_23 : decode cX7_keepTrips 23 = .ok (.imul, 1) := by decide +kernel
theorem dX7_keepTrips_24 : decode cX7_keepTrips 24 = .ok (.invokevirtual 260, 3) := by decide +kernel
theorem dX7_keepTrips_27 : decode cX7_keepTrips 27 = .ok (.return_, 1) := by decide +kernel
theorem dX7_isCamp_0 : decode cX7_isCamp 0 = .ok (.iload_n 1, 1) := by decide +kernel
theorem dX7_isCamp_1 : decode cX7_isCamp 1 = .ok (.iconst 0, 1) := by decide +kernel
theorem dX7_isCamp_2 : decode cX7_isCamp 2 = .ok (.aload_n 0, 1) := by decide +kernel
theorem dX7_isCamp_3 : decode cX7_isCamp 3 = .ok (.getfield 10, 3) := by decide +kernel
theorem dX7_isCamp_6 : decode cX7_isCamp 6 = .ok (.getfield 72, 3) := by decide +kernel
theorem dX7_isCamp_9 : decode cX7_isCamp 9 = .ok (.iconst 0, 1) := by decide +kernel
theorem dX7_isCamp_10 : decode cX7_isCamp 10 = .ok (.iaload, 1) := by decide +kernel
theorem dX7_isCamp_11 : decode cX7_isCamp 11 = .ok (.iconst 1, 1) := by decide +kernel
theorem dX7_isCamp_12 : decode cX7_isCamp 12 = .ok (.isub, 1) := by decide +kernel
theorem dX7_isCamp_13 : decode cX7_isCamp 13 = .ok (.invokestatic 55, 3) := by decide +kernel
theorem dX7_isCamp_16 : decode cX7_isCamp 16 = .ok (.ireturn, 1) := by decide +kernel
theorem dX7_isTrip_0 : decode cX7_isTrip 0 = .ok (.iload_n 1, 1) := by decide +kernel
theorem dX7_isTrip_1 : decode cX7_isTrip 1 = .ok (.iconst 0, 1) := by decide +kernel
theorem dX7_isTrip_2 : decode cX7_isTrip 2 = .ok (.aload_n 0, 1) := by decide +kernel
theorem dX7_isTrip_3 : decode cX7_isTrip 3 = .ok (.getfield 19, 3) := by decide +kernel
theorem dX7_isTrip_6 : decode cX7_isTrip 6 = .ok (.invokevirtual 119, 3) := by decide +kernel
theorem dX7_isTrip_9 : decode cX7_isTrip 9 = .ok (.iconst 1, 1) := by decide +kernel
theorem dX7_isTrip_10 : decode cX7_isTrip 10 = .ok (.isub, 1) := by decide +kernel
theorem dX7_isTrip_11 : decode cX7_isTrip 11 = .ok (.invokestatic 55, 3) := by decide +kernel
theorem dX7_isTrip_14 : decode cX7_isTrip 14 = .ok (.ireturn, 1) := by decide +kernel
theorem dX7_isSet_0 : decode cX7_isSet 0 = .ok (.iload_n 1, 1) := by decide +kernel
theorem dX7_isSet_1 : decode cX7_isSet 1 = .ok (.iconst 1, 1) := by decide +kernel
theorem dX7_isSet_2 : decode cX7_isSet 2 = .ok (.aload_n 0, 1) := by decide +kernel
theorem dX7_isSet_3 : decode cX7_isSet 3 = .ok (.getfield 19, 3) := by decide +kernel
theorem dX7_isSet_6 : decode cX7_isSet 6 = .ok (.invokevirtual 119, 3) := by decide +kernel
theorem dX7_isSet_9 : decode cX7_isSet 9 = .ok (.ishl, 1) := by decide +kernel
theorem dX7_isSet_10 : decode cX7_isSet 10 = .ok (.ineg, 1) := by decide +kernel
theorem dX7_isSet_11 : decode cX7_isSet 11 = .ok (.iand, 1) := by decide +kernel
theorem dX7_isSet_12 : decode cX7_isSet 12 = .ok (.ifCond .ne 7, 3) := by decide +kernel
theorem dX7_isSet_15 : decode cX7_isSet 15 = .ok (.iconst 1, 1) := by decide +kernel
theorem dX7_isSet_16 : decode cX7_isSet 16 = .ok (.goto 4, 3) := by decide +kernel
theorem dX7_isSet_19 : decode cX7_isSet 19 = .ok (.iconst 0, 1) := by decide +kernel
theorem dX7_isSet_20 : decode cX7_isSet 20 = .ok (.ireturn, 1) := by decide +kernel
theorem dX7_isApplicant_0 : decode cX7_isApplicant 0 = .ok (.iload_n 1, 1) := by decide +kernel
theorem dX7_isApplicant_1 : decode cX7_isApplicant 1 = .ok (.iconst 0, 1) := by decide +kernel
theorem dX7_isApplicant_2 : decode cX7_isApplicant 2 = .ok (.aload_n 0, 1) := by decide +kernel
theorem dX7_isApplicant_3 : decode cX7_isApplicant 3 = .ok (.getfield 33, 3) := by decide +kernel
theorem dX7_isApplicant_6 : decode cX7_isApplicant 6 = .ok (.invokevirtual 202, 3) := by decide +kernel
theorem dX7_isApplicant_9 : decode cX7_isApplicant 9 = .ok (.iconst 1, 1) := by decide +kernel
theorem dX7_isApplicant_10 : decode cX7_isApplicant 10 = .ok (.isub, 1) := by decide +kernel
theorem dX7_isApplicant_11 : decode cX7_isApplicant 11 = .ok (.invokestatic 55, 3) := by decide +kernel
theorem dX7_isApplicant_14 : decode cX7_isApplicant 14 = .ok (.ireturn, 1) := by decide +kernel
theorem dX7_isSheet_0 : decode cX7_isSheet 0 = .ok (.iload_n 0, 1) := by decide +kernel
theorem dX7_isSheet_1 : decode cX7_isSheet 1 = .ok (.iconst 0, 1) := by decide +kernel
theorem dX7_isSheet_2 : decode cX7_isSheet 2 = .ok (.iconst 3, 1) := by decide +kernel
theorem dX7_isSheet_3 : decode cX7_isSheet 3 = .ok (.invokestatic 55, 3) := by decide +kernel
theorem dX7_isSheet_6 : decode cX7_isSheet 6 = .ok (.ireturn, 1) := by decide +kernel
theorem dX7_isDay_0 : decode cX7_isDay 0 = .ok (.iload_n 0, 1) := by decide +kernel
theorem dX7_isDay_1 : decode cX7_isDay 1 = .ok (.iconst 0, 1) := by decide +kernel
theorem dX7_isDay_2 : decode cX7_isDay 2 = .ok (.bipush 29, 2) := by decide +kernel
theorem dX7_isDay_4 : decode cX7_isDay 4 = .ok (.invokestatic 55, 3) := by decide +kernel
theorem dX7_isDay_7 : decode cX7_isDay 7 = .ok (.ireturn, 1) := by decide +kernel
theorem dX7_isKind_0 : decode cX7_isKind 0 = .ok (.iload_n 0, 1) := by decide +kernel
theorem dX7_isKind_1 : decode cX7_isKind 1 = .ok (.iconst 0, 1) := by decide +kernel
theorem dX7_isKind_2 : decode cX7_isKind 2 = .ok (.iconst 3, 1) := by decide +kernel
theorem dX7_isKind_3 : decode cX7_isKind 3 = .ok (.invokestatic 55, 3) := by decide +kernel
theorem dX7_isKind_6 : decode cX7_isKind 6 = .ok (.ireturn, 1) := by decide +kernel
theorem dX7_isMile_0 : decode cX7_isMile 0 = .ok (.iload_n 0, 1) := by decide +kernel
theorem dX7_isMile_1 : decode cX7_isMile 1 = .ok (.iconst 0, 1) := by decide +kernel
theorem dX7_isMile_2 : decode cX7_isMile 2 = .ok (.sipush 250, 3) := by decide +kernel
theorem dX7_isMile_5 : decode cX7_isMile 5 = .ok (.invokestatic 55, 3) := by decide +kernel
theorem dX7_isMile_8 : decode cX7_isMile 8 = .ok (.ireturn, 1) := by decide +kernel
theorem dX7_isWater_0 : decode cX7_isWater 0 = .ok (.iload_n 0, 1) := by decide +kernel
theorem dX7_isWater_1 : decode cX7_isWater 1 = .ok (.iconst 0, 1) := by decide +kernel
theorem dX7_isWater_2 : decode cX7_isWater 2 = .ok (.sipush 999, 3) := by decide +kernel
theorem dX7_isWater_5 : decode cX7_isWater 5 = .ok (.invokestatic 55, 3) := by decide +kernel
theorem dX7_isWater_8 : decode cX7_isWater 8 = .ok (.ireturn, 1) := by decide +kernel
theorem dX7_within_0 : decode cX7_within 0 = .ok (.iload_n 1, 1) := by decide +kernel
theorem dX7_within_1 : decode cX7_within 1 = .ok (.iload_n 0, 1) := by decide +kernel
theorem dX7_within_2 : decode cX7_within 2 = .ok (.if_icmp .gt 12, 3) := by decide +kernel
theorem dX7_within_5 : decode cX7_within 5 = .ok (.iload_n 0, 1) := by decide +kernel
theorem dX7_within_6 : decode cX7_within 6 = .ok (.iload_n 2, 1) := by decide +kernel
theorem dX7_within_7 : decode cX7_within 7 = .ok (.if_icmp .gt 7, 3) := by decide +kernel
theorem dX7_within_10 : decode cX7_within 10 = .ok (.iconst 1, 1) := by decide +kernel
theorem dX7_within_11 : decode cX7_within 11 = .ok (.goto 4, 3) := by decide +kernel
theorem dX7_within_14 : decode cX7_within 14 = .ok (.iconst 0, 1) := by decide +kernel
theorem dX7_within_15 : decode cX7_within 15 = .ok (.ireturn, 1) := by decide +kernel
theorem dX7_holds_0 : decode cX7_holds 0 = .ok (.iload_n 0, 1) := by decide +kernel
theorem dX7_holds_1 : decode cX7_holds 1 = .ok (.iconst 1, 1) := by decide +kernel
theorem dX7_holds_2 : decode cX7_holds 2 = .ok (.iload_n 1, 1) := by decide +kernel
theorem dX7_holds_3 : decode cX7_holds 3 = .ok (.ishl, 1) := by decide +kernel
theorem dX7_holds_4 : decode cX7_holds 4 = .ok (.iand, 1) := by decide +kernel
theorem dX7_holds_5 : decode cX7_holds 5 = .ok (.ifCond .eq 7, 3) := by decide +kernel
theorem dX7_holds_8 : decode cX7_holds 8 = .ok (.iconst 1, 1) := by decide +kernel
theorem dX7_holds_9 : decode cX7_holds 9 = .ok (.goto 4, 3) := by decide +kernel
theorem dX7_holds_12 : decode cX7_holds 12 = .ok (.iconst 0, 1) := by decide +kernel
theorem dX7_holds_13 : decode cX7_holds 13 = .ok (.ireturn, 1) := by decide +kernel
theorem dX7_greatestDivisor_0 : decode cX7_greatestDivisor 0 = .ok (.iload_n 0, 1) := by decide +kernel
theorem dX7_greatestDivisor_1 : decode cX7_greatestDivisor 1 = .ok (.istore_n 2, 1) := by decide +kernel
theorem dX7_greatestDivisor_2 : decode cX7_greatestDivisor 2 = .ok (.iload_n 2, 1) := by decide +kernel
theorem dX7_greatestDivisor_3 : decode cX7_greatestDivisor 3 = .ok (.iconst 1, 1) := by decide +kernel
theorem dX7_greatestDivisor_4 : decode cX7_greatestDivisor 4 = .ok (.if_icmp .le 23, 3) := by decide +kernel
theorem dX7_greatestDivisor_7 : decode cX7_greatestDivisor 7 = .ok (.iload_n 0, 1) := by decide +kernel
theorem dX7_greatestDivisor_8 : decode cX7_greatestDivisor 8 = .ok (.iload_n 2, 1) := by decide +kernel
theorem dX7_greatestDivisor_9 : decode cX7_greatestDivisor 9 = .ok (.irem, 1) := by decide +kernel
theorem dX7_greatestDivisor_10 : decode cX7_greatestDivisor 10 = .ok (.ifCond .ne 11, 3) := by decide +kernel
theorem dX7_greatestDivisor_13 : decode cX7_greatestDivisor 13 = .ok (.iload_n 1, 1) := by decide +kernel
theorem dX7_greatestDivisor_14 : decode cX7_greatestDivisor 14 = .ok (.iload_n 2, 1) := by decide +kernel
theorem dX7_greatestDivisor_15 : decode cX7_greatestDivisor 15 = .ok (.irem, 1) := by decide +kernel
theorem dX7_greatestDivisor_16 : decode cX7_greatestDivisor 16 = .ok (.ifCond .ne 5, 3) := by decide +kernel
theorem dX7_greatestDivisor_19 : decode cX7_greatestDivisor 19 = .ok (.iload_n 2, 1) := by decide +kernel
theorem dX7_greatestDivisor_20 : decode cX7_greatestDivisor 20 = .ok (.ireturn, 1) := by decide +kernel
theorem dX7_greatestDivisor_21 : decode cX7_greatestDivisor 21 = .ok (.iinc 2 (-1), 3) := by decide +kernel
theorem dX7_greatestDivisor_24 : decode cX7_greatestDivisor 24 = .ok (.goto (-22), 3) := by decide +kernel
theorem dX7_greatestDivisor_27 : decode cX7_greatestDivisor 27 = .ok (.iconst 1, 1) := by decide +kernel
theorem dX7_greatestDivisor_28 : decode cX7_greatestDivisor 28 = .ok (.ireturn, 1) := by decide +kernel
theorem dX8_init_0 : decode cX8_init 0 = .ok (.aload_n 0, 1) := by decide +kernel
theorem dX8_init_1 : decode cX8_init 1 = .ok (.invokespecial 1, 3) := by decide +kernel
theorem dX8_init_4 : decode cX8_init 4 = .ok (.aload_n 0, 1) := by decide +kernel
theorem dX8_init_5 : decode cX8_init 5 = .ok (.sipush 556, 3) := by decide +kernel
theorem dX8_init_8 : decode cX8_init 8 = .ok (.newarray .int, 2) := by decide +kernel
theorem dX8_init_10 : decode cX8_init 10 = .ok (.putfield 7, 3) := by decide +kernel
theorem dX8_init_13 : decode cX8_init 13 = .ok (.aload_n 0, 1) := by decide +kernel
theorem dX8_init_14 : decode cX8_init 14 = .ok (.sipush 11120, 3) := by decide +kernel
theorem dX8_init_17 : decode cX8_init 17 = .ok (.newarray .int, 2) := by decide +kernel
theorem dX8_init_19 : decode cX8_init 19 = .ok (.putfield 13, 3) := by decide +kernel
theorem dX8_init_22 : decode cX8_init 22 = .ok (.aload_n 0, 1) := by decide +kernel
theorem dX8_init_23 : decode cX8_init 23 = .ok (.iconst 4, 1) := by decide +kernel
theorem dX8_init_24 : decode cX8_init 24 = .ok (.newarray .int, 2) := by decide +kernel
theorem dX8_init_26 : decode cX8_init 26 = .ok (.putfield 16, 3) := by decide +kernel
theorem dX8_init_29 : decode cX8_init 29 = .ok (.aload_n 0, 1) := by decide +kernel
theorem dX8_init_30 : decode cX8_init 30 = .ok (.iconst 4, 1) := by decide +kernel
theorem dX8_init_31 : decode cX8_init 31 = .ok (.newarray .int, 2) := by decide +kernel
theorem dX8_init_33 : decode cX8_init 33 = .ok (.putfield 19, 3) := by decide +kernel
theorem dX8_init_36 : decode cX8_init 36 = .ok (.aload_n 0, 1) := by decide +kernel
theorem dX8_init_37 : decode cX8_init 37 = .ok (.sipush 160, 3) := by decide +kernel
theorem dX8_init_40 : decode cX8_init 40 = .ok (.newarray .int, 2) := by decide +kernel
theorem dX8_init_42 : decode cX8_init 42 = .ok (.putfield 22, 3) := by decide +kernel
theorem dX8_init_45 : decode cX8_init 45 = .ok (.aload_n 0, 1) := by decide +kernel
theorem dX8_init_46 : decode cX8_init 46 = .ok (.sipush 720, 3) := by decide +kernel
theorem dX8_init_49 : decode cX8_init 49 = .ok (.newarray .int, 2) := by decide +kernel
theorem dX8_init_51 : decode cX8_init 51 = .ok (.putfield 25, 3) := by decide +kernel
theorem dX8_init_54 : decode cX8_init 54 = .ok (.aload_n 0, 1) := by decide +kernel
theorem dX8_init_55 : decode cX8_init 55 = .ok (.bipush 15, 2) := by decide +kernel
theorem dX8_init_57 : decode cX8_init 57 = .ok (.newarray .int, 2) := by decide +kernel
theorem dX8_init_59 : decode cX8_init 59 = .ok (.putfield 28, 3) := by decide +kernel
theorem dX8_init_62 : decode cX8_init 62 = .ok (.aload_n 0, 1) := by decide +kernel
theorem dX8_init_63 : decode cX8_init 63 = .ok (.sipush 300, 3) := by decide +kernel
theorem dX8_init_66 : decode cX8_init 66 = .ok (.newarray .int, 2) := by decide +kernel
theorem dX8_init_68 : decode cX8_init 68 = .ok (.putfield 31, 3) := by decide +kernel
theorem dX8_init_71 : decode cX8_init 71 = .ok (.aload_n 0, 1) := by decide +kernel
theorem dX8_init_72 : decode cX8_init 72 = .ok (.bipush 12, 2) := by decide +kernel
theorem dX8_init_74 : decode cX8_init 74 = .ok (.newarray .int, 2) := by decide +kernel
theorem dX8_init_76 : decode cX8_init 76 = .ok (.putfield 34, 3) := by decide +kernel
theorem dX8_init_79 : decode cX8_init 79 = .ok (.aload_n 0, 1) := by decide +kernel
theorem dX8_init_80 : decode cX8_init 80 = .ok (.bipush 12, 2) := by decide +kernel
theorem dX8_init_82 : decode cX8_init 82 = .ok (.newarray .boolean, 2) := by decide +kernel
theorem dX8_init_84 : decode cX8_init 84 = .ok (.putfield 37, 3) := by decide +kernel
theorem dX8_init_87 : decode cX8_init 87 = .ok (.aload_n 0, 1) := by decide +kernel
theorem dX8_init_88 : decode cX8_init 88 = .ok (.bipush 40, 2) := by decide +kernel
theorem dX8_init_90 : decode cX8_init 90 = .ok (.newarray .int, 2) := by decide +kernel
theorem dX8_init_92 : decode cX8_init 92 = .ok (.putfield 41, 3) := by decide +kernel
theorem dX8_init_95 : decode cX8_init 95 = .ok (.aload_n 0, 1) := by decide +kernel
theorem dX8_init_96 : decode cX8_init 96 = .ok (.getfield 7, 3) := by decide +kernel
theorem dX8_init_99 : decode cX8_init 99 = .ok (.iconst 0, 1) := by decide +kernel
theorem dX8_init_100 : decode cX8_init 100 = .ok (.sipush 200, 3) := by decide +kernel
theorem dX8_init_103 : decode cX8_init 103 = .ok (.iastore, 1) := by decide +kernel
theorem dX8_init_104 : decode cX8_init 104 = .ok (.aload_n 0, 1) := by decide +kernel
theorem dX8_init_105 : decode cX8_init 105 = .ok (.getfield 7, 3) := by decide +kernel
theorem dX8_init_108 : decode cX8_init 108 = .ok (.iconst 1, 1) := by decide +kernel
theorem dX8_init_109 : decode cX8_init 109 = .ok (.iconst 4, 1) := by decide +kernel
theorem dX8_init_110 : decode cX8_init 110 = .ok (.iastore, 1) := by decide +kernel
theorem dX8_init_111 : decode cX8_init 111 = .ok (.iconst 0, 1) := by decide +kernel
theorem dX8_init_112 : decode cX8_init 112 = .ok (.istore_n 1, 1) := by decide +kernel
theorem dX8_init_113 : decode cX8_init 113 = .ok (.iload_n 1, 1) := by decide +kernel
theorem dX8_init_114 : decode cX8_init 114 = .ok (.bipush 120, 2) := by decide +kernel
theorem dX8_init_116 : decode cX8_init 116 = .ok (.if_icmp .ge 20, 3) := by decide +kernel
theorem dX8_init_119 : decode cX8_init 119 = .ok (.aload_n 0, 1) := by decide +kernel
theorem dX8_init_120 : decode cX8_init 120 = .ok (.getfield 7, 3) := by decide +kernel
theorem dX8_init_123 : decode cX8_init 123 = .ok (.bipush 74, 2) := by decide +kernel
theorem dX8_init_125 : decode cX8_init 125 = .ok (.iload_n 1, 1) := by decide +kernel
theorem dX8_init_126 : decode cX8_init 126 = .ok (.iadd, 1) := by decide +kernel
theorem dX8_init_127 : decode cX8_init 127 = .ok (.bipush 100, 2) := by decide +kernel
theorem dX8_init_129 : decode cX8_init 129 = .ok (.iastore, 1) := by decide +kernel
theorem dX8_init_130 : decode cX8_init 130 = .ok (.iinc 1 1, 3) := by decide +kernel
theorem dX8_init_133 : decode cX8_init 133 = .ok (.goto (-20), 3) := by decide +kernel
theorem dX8_init_136 : decode cX8_init 136 = .ok (.iconst 0, 1) := by decide +kernel
theorem dX8_init_137 : decode cX8_init 137 = .ok (.istore_n 1, 1) := by decide +kernel
theorem dX8_init_138 : decode cX8_init 138 = .ok (.iload_n 1, 1) := by decide +kernel
theorem dX8_init_139 : decode cX8_init 139 = .ok (.sipush 300, 3) := by decide +kernel
theorem dX8_init_142 : decode cX8_init 142 = .ok (.if_icmp .ge 20, 3) := by decide +kernel
theorem dX8_init_145 : decode cX8_init 145 = .ok (.aload_n 0, 1) := by decide +kernel
theorem dX8_init_146 : decode cX8_init 146 = .ok (.getfield 7, 3) := by decide +kernel
theorem dX8_init_149 : decode cX8_init 149 = .ok (.sipush 244, 3) := by decide +kernel
theorem dX8_init_152 : decode cX8_init 152 = .ok (.iload_n 1, 1) := by decide +kernel
theorem dX8_init_153 : decode cX8_init 153 = .ok (.iadd, 1) := by decide +kernel
theorem dX8_init_154 : decode cX8_init 154 = .ok (.iconst (-1), 1) := by decide +kernel
theorem dX8_init_155 : decode cX8_init 155 = .ok (.iastore, 1) := by decide +kernel
theorem dX8_init_156 : decode cX8_init 156 = .ok (.iinc 1 1, 3) := by decide +kernel
theorem dX8_init_159 : decode cX8_init 159 = .ok (.goto (-21), 3) := by decide +kernel
theorem dX8_init_162 : decode cX8_init 162 = .ok (.return_, 1) := by decide +kernel
theorem dX8_finding_0 : decode cX8_finding 0 = .ok (.aload_n 0, 1) := by decide +kernel
theorem dX8_finding_1 : decode cX8_finding 1 = .ok (.dup, 1) := by decide +kernel
theorem dX8_finding_2 : decode cX8_finding 2 = .ok (.getfield 44, 3) := by decide +kernel
theorem dX8_finding_5 : decode cX8_finding 5 = .ok (.iconst 1, 1) := by decide +kernel
theorem dX8_finding_6 : decode cX8_finding 6 = .ok (.iadd, 1) := by decide +kernel
theorem dX8_finding_7 : decode cX8_finding 7 = .ok (.putfield 44, 3) := by decide +kernel
theorem dX8_finding_10 : decode cX8_finding 10 = .ok (.iload_n 1, 1) := by decide +kernel
theorem dX8_finding_11 : decode cX8_finding 11 = .ok (.ireturn, 1) := by decide +kernel
theorem dX8_isIn_0 : decode cX8_isIn 0 = .ok (.iload_n 0, 1) := by decide +kernel
theorem dX8_isIn_1 : decode cX8_isIn 1 = .ok (.iload_n 1, 1) := by decide +kernel
theorem dX8_isIn_2 : decode cX8_isIn 2 = .ok (.if_icmp .lt 12, 3) := by decide +kernel
theorem dX8_isIn_5 : decode cX8_isIn 5 = .ok (.iload_n 0, 1) := by decide +kernel
theorem dX8_isIn_6 : decode cX8_isIn 6 = .ok (.iload_n 2, 1) := by decide +kernel
theorem dX8_isIn_7 : decode cX8_isIn 7 = .ok (.if_icmp .gt 7, 3) := by decide +kernel
theorem dX8_isIn_10 : decode cX8_isIn 10 = .ok (.iconst 1, 1) := by decide +kernel
theorem dX8_isIn_11 : decode cX8_isIn 11 = .ok (.goto 4, 3) := by decide +kernel
theorem dX8_isIn_14 : decode cX8_isIn 14 = .ok (.iconst 0, 1) := by decide +kernel
theorem dX8_isIn_15 : decode cX8_isIn 15 = .ok (.ireturn, 1) := by decide +kernel
theorem dX8_isCamp_0 : decode cX8_isCamp 0 = .ok (.iload_n 1, 1) := by decide +kernel
theorem dX8_isCamp_1 : decode cX8_isCamp 1 = .ok (.ifCond .lt 17, 3) := by decide +kernel
theorem dX8_isCamp_4 : decode cX8_isCamp 4 = .ok (.iload_n 1, 1) := by decide +kernel
theorem dX8_isCamp_5 : decode cX8_isCamp 5 = .ok (.aload_n 0, 1) := by decide +kernel
theorem dX8_isCamp_6 : decode cX8_isCamp 6 = .ok (.getfield 7, 3) := by decide +kernel
theorem dX8_isCamp_9 : decode cX8_isCamp 9 = .ok (.iconst 2, 1) := by decide +kernel
theorem dX8_isCamp_10 : decode cX8_isCamp 10 = .ok (.iaload, 1) := by decide +kernel
theorem dX8_isCamp_11 : decode cX8_isCamp 11 = .ok (.if_icmp .ge 7, 3) := by decide +kernel
theorem dX8_isCamp_14 : decode cX8_isCamp 14 = .ok (.iconst 1, 1) := by decide +kernel
theorem dX8_isCamp_15 : decode cX8_isCamp 15 = .ok (.goto 4, 3) := by decide +kernel
theorem dX8_isCamp_18 : decode cX8_isCamp 18 = .ok (.iconst 0, 1) := by decide +kernel
theorem dX8_isCamp_19 : decode cX8_isCamp 19 = .ok (.ireturn, 1) := by decide +kernel
theorem dX8_isRapid_0 : decode cX8_isRapid 0 = .ok (.iload_n 1, 1) := by decide +kernel
theorem dX8_isRapid_1 : decode cX8_isRapid 1 = .ok (.ifCond .lt 17, 3) := by decide +kernel
theorem dX8_isRapid_4 : decode cX8_isRapid 4 = .ok (.iload_n 1, 1) := by decide +kernel
theorem dX8_isRapid_5 : decode cX8_isRapid 5 = .ok (.aload_n 0, 1) := by decide +kernel
theorem dX8_isRapid_6 : decode cX8_isRapid 6 = .ok (.getfield 7, 3) := by decide +kernel
theorem dX8_isRapid_9 : decode cX8_isRapid 9 = .ok (.iconst 3, 1) := by decide +kernel
theorem dX8_isRapid_10 : decode cX8_isRapid 10 = .ok (.iaload, 1) := by decide +kernel
theorem dX8_isRapid_11 : decode cX8_isRapid 11 = .ok (.if_icmp .ge 7, 3) := by decide +kernel
theorem dX8_isRapid_14 : decode cX8_isRapid 14 = .ok (.iconst 1, 1) := by decide +kernel
theorem dX8_isRapid_15 : decode cX8_isRapid 15 = .ok (.goto 4, 3) := by decide +kernel
theorem dX8_isRapid_18 : decode cX8_isRapid 18 = .ok (.iconst 0, 1) := by decide +kernel
theorem dX8_isRapid_19 : decode cX8_isRapid 19 = .ok (.ireturn, 1) := by decide +kernel
theorem dX8_isTrip_0 : decode cX8_isTrip 0 = .ok (.iload_n 1, 1) := by decide +kernel
theorem dX8_isTrip_1 : decode cX8_isTrip 1 = .ok (.ifCond .lt 17, 3) := by decide +kernel
theorem dX8_isTrip_4 : decode cX8_isTrip 4 = .ok (.iload_n 1, 1) := by decide +kernel
theorem dX8_isTrip_5 : decode cX8_isTrip 5 = .ok (.aload_n 0, 1) := by decide +kernel
theorem dX8_isTrip_6 : decode cX8_isTrip 6 = .ok (.getfield 7, 3) := by decide +kernel
theorem dX8_isTrip_9 : decode cX8_isTrip 9 = .ok (.iconst 5, 1) := by decide +kernel
theorem dX8_isTrip_10 : decode cX8_isTrip 10 = .ok (.iaload, 1) := by decide +kernel
theorem dX8_isTrip_11 : decode cX8_isTrip 11 = .ok (.if_icmp .ge 7, 3) := by decide +kernel
theorem dX8_isTrip_14 : decode cX8_isTrip 14 = .ok (.iconst 1, 1) := by decide +kernel
theorem dX8_isTrip_15 : decode cX8_isTrip 15 = .ok (.goto 4, 3) := by decide +kernel
theorem dX8_isTrip_18 : decode cX8_isTrip 18 = .ok (.iconst 0, 1) := by decide +kernel
theorem dX8_isTrip_19 : decode cX8_isTrip 19 = .ok (.ireturn, 1) := by decide +kernel
theorem dX8_isApplicant_0 : decode cX8_isApplicant 0 = .ok (.iload_n 1, 1) := by decide +kernel
theorem dX8_isApplicant_1 : decode cX8_isApplicant 1 = .ok (.ifCond .lt 18, 3) := by decide +kernel
theorem dX8_isApplicant_4 : decode cX8_isApplicant 4 = .ok (.iload_n 1, 1) := by decide +kernel
theorem dX8_isApplicant_5 : decode cX8_isApplicant 5 = .ok (.aload_n 0, 1) := by decide +kernel
theorem dX8_isApplicant_6 : decode cX8_isApplicant 6 = .ok (.getfield 7, 3) := by decide +kernel
theorem dX8_isApplicant_9 : decode cX8_isApplicant 9 = .ok (.bipush 6, 2) := by decide +kernel
theorem dX8_isApplicant_11 : decode cX8_isApplicant 11 = .ok (.iaload, 1) := by decide +kernel
theorem dX8_isApplicant_12 : decode cX8_isApplicant 12 = .ok (.if_icmp .ge 7, 3) := by decide +kernel
theorem dX8_isApplicant_15 : decode cX8_isApplicant 15 = .ok (.iconst 1, 1) := by decide +kernel
theorem dX8_isApplicant_16 : decode cX8_isApplicant 16 = .ok (.goto 4, 3) := by decide +kernel
theorem dX8_isApplicant_19 : decode cX8_isApplicant 19 = .ok (.iconst 0, 1) := by decide +kernel
theorem dX8_isApplicant_20 : decode cX8_isApplicant 20 = .ok (.ireturn, 1) := by decide +kernel
theorem dX8_isDay_0 : decode cX8_isDay 0 = .ok (.iload_n 0, 1) := by decide +kernel
theorem dX8_isDay_1 : decode cX8_isDay 1 = .ok (.iconst 0, 1) := by decide +kernel
theorem dX8_isDay_2 : decode cX8_isDay 2 = .ok (.bipush 29, 2) := by decide +kernel
theorem dX8_isDay_4 : decode cX8_isDay 4 = .ok (.invokestatic 48, 3) := by decide +kernel
theorem dX8_isDay_7 : decode cX8_isDay 7 = .ok (.ireturn, 1) := by decide +kernel
theorem dX8_isWater_0 : decode cX8_isWater 0 = .ok (.iload_n 0, 1) := by decide +kernel
theorem dX8_isWater_1 : decode cX8_isWater 1 = .ok (.iconst 0, 1) := by decide +kernel
theorem dX8_isWater_2 : decode cX8_isWater 2 = .ok (.sipush 999, 3) := by decide +kernel
theorem dX8_isWater_5 : decode cX8_isWater 5 = .ok (.invokestatic 48, 3) := by decide +kernel
theorem dX8_isWater_8 : decode cX8_isWater 8 = .ok (.ireturn, 1) := by decide +kernel
theorem dX8_keep_0 : decode cX8_keep 0 = .ok (.aload_n 0, 1) := by decide +kernel
theorem dX8_keep_1 : decode cX8_keep 1 = .ok (.getfield 52, 3) := by decide +kernel
theorem dX8_keep_4 : decode cX8_keep 4 = .ok (.bipush 20, 2) := by decide +kernel
theorem dX8_keep_6 : decode cX8_keep 6 = .ok (.if_icmp .ne 44, 3) := by decide +kernel
theorem dX8_keep_9 : decode cX8_keep 9 = .ok (.iconst 0, 1) := by decide +kernel
theorem dX8_keep_10 : decode cX8_keep 10 = .ok (.istore_n 1, 1) := by decide +kernel
theorem dX8_keep_11 : decode cX8_keep 11 = .ok (.iload_n 1, 1) := by decide +kernel
theorem dX8_keep_12 : decode cX8_keep 12 = .ok (.sipush 10564, 3) := by decide +kernel
theorem dX8_keep_15 : decode cX8_keep 15 = .ok (.if_icmp .ge 25, 3) := by decide +kernel
theorem dX8_keep_18 : decode cX8_keep 18 = .ok (.aload_n 0, 1) := by decide +kernel
theorem dX8_keep_19 : decode cX8_keep 19 = .ok (.getfield 13, 3) := by decide +kernel
theorem dX8_keep_22 : decode cX8_keep 22 = .ok (.iload_n 1, 1) := by decide +kernel
theorem dX8_keep_23 : decode cX8_keep 23 = .ok (.aload_n 0, 1) := by decide +kernel
theorem dX8_keep_24 : decode cX8_keep 24 = .ok (.getfield 13, 3) := by decide +kernel
theorem dX8_keep_27 : decode cX8_keep 27 = .ok (.iload_n 1, 1) := by decide +kernel
theorem dX8_keep_28 : decode cX8_keep 28 = .ok (.sipush 556, 3) := by decide +kernel
theorem dX8_keep_31 : decode cX8_keep 31 = .ok (.iadd, 1) := by decide +kernel
theorem dX8_keep_32 : decode cX8_keep 32 = .ok (.iaload, 1) := by decide +kernel
theorem dX8_keep_33 : decode cX8_keep 33 = .ok (.iastore, 1) := by decide +kernel
theorem dX8_keep_34 : decode cX8_keep 34 = .ok (.iinc 1 1, 3) := by decide +kernel
theorem dX8_keep_37 : decode cX8_keep 37 = .ok (.goto (-26), 3) := by decide +kernel
theorem dX8_keep_40 : decode cX8_keep 40 = .ok (.aload_n 0, 1) := by decide +kernel
theorem dX8_keep_41 : decode cX8_keep 41 = .ok (.dup, 1) := by decide +kernel
theorem dX8_keep_42 : decode cX8_keep 42 = .ok (.getfield 52, 3) := by decide +kernel
theorem dX8_keep_45 : decode cX8_keep 45 = .ok (.iconst 1, 1) := by decide +kernel
theorem dX8_keep_46 : decode cX8_keep 46 = .ok (.isub, 1) := by decide +kernel
theorem dX8_keep_47 : decode cX8_keep 47 = .ok (.putfield 52, 3) := by decide +kernel
theorem dX8_keep_50 : decode cX8_keep 50 = .ok (.iconst 0, 1) := by decide +kernel
theorem dX8_keep_51 : decode cX8_keep 51 = .ok (.istore_n 1, 1) := by decide +kernel
theorem dX8_keep_52 : decode cX8_keep 52 = .ok (.iload_n 1, 1) := by decide +kernel
theorem dX8_keep_53 : decode cX8_keep 53 = .ok (.sipush 556, 3) := by decide +kernel
theorem dX8_keep_56 : decode cX8_keep 56 = .ok (.if_icmp .ge 30, 3) := by decide +kernel
theorem dX8_keep_59 : decode cX8_keep 59 = .ok (.aload_n 0, 1) := by decide +kernel
theorem dX8_keep_60 : decode cX8_keep 60 = .ok (.getfield 13, 3) := by decide +kernel
theorem dX8_keep_63 : decode cX8_keep 63 = .ok (.sipush 556, 3) := by decide +kernel
theorem dX8_keep_66 : decode cX8_keep 66 = .ok (.aload_n 0, 1) := by decide +kernel
theorem dX8_keep_67 : decode cX8_keep 67 = .ok (.getfield 52, 3) := by decide +kernel
theorem dX8_keep_70 : decode cX8_keep 70 = .ok (.imul, 1) := by decide +kernel
theorem dX8_keep_71 : decode cX8_keep 71 = .ok (.iload_n 1, 1) := by decide +kernel
theorem dX8_keep_72 : decode cX8_keep 72 = .ok (.iadd, 1) := by decide +kernel
theorem dX8_keep_73 : decode cX8_keep 73 = .ok (.aload_n 0, 1) := by decide +kernel
theorem dX8_keep_74 : decode cX8_keep 74 = .ok (.getfield 7, 3) := by decide +kernel
theorem dX8_keep_77 : decode cX8_keep 77 = .ok (.iload_n 1, 1) := by decide +kernel
theorem dX8_keep_78 : decode cX8_keep 78 = .ok (.iaload, 1) := by decide +kernel
theorem dX8_keep_79 : decode cX8_keep 79 = .ok (.iastore, 1) := by decide +kernel
theorem dX8_keep_80 : decode cX8_keep 80 = .ok (.iinc 1 1, 3) := by decide +kernel
theorem dX8_keep_83 : decode cX8_keep 83 = .ok (.goto (-31), 3) := by decide +kernel
theorem dX8_keep_86 : decode cX8_keep 86 = .ok (.aload_n 0, 1) := by decide +kernel
theorem dX8_keep_87 : decode cX8_keep 87 = .ok (.dup, 1) := by decide +kernel
theorem dX8_keep_88 : decode cX8_keep 88 = .ok (.getfield 52, 3) := by decide +kernel
theorem dX8_keep_91 : decode cX8_keep 91 = .ok (.iconst 1, 1) := by decide +kernel
theorem dX8_keep_92 : decode cX8_keep 92 = .ok (.iadd, 1) := by decide +kernel
theorem dX8_keep_93 : decode cX8_keep 93 = .ok (.putfield 52, 3) := by decide +kernel
theorem dX8_keep_96 : decode cX8_keep 96 = .ok (.return_, 1) := by decide +kernel
theorem dX8_undo_0 : decode cX8_undo 0 = .ok (.aload_n 0, 1) := by decide +kernel
theorem dX8_undo_1 : decode cX8_undo 1 = .ok (.getfield 52, 3) := by decide +kernel
theorem dX8_undo_4 : decode cX8_undo 4 = .ok (.ifCond .ne 10, 3) := by decide +kernel
theorem dX8_undo_7 : decode cX8_undo 7 = .ok (.aload_n 0, 1) := by decide +kernel
theorem dX8_undo_8 : decode cX8_undo 8 = .ok (.ldc 55, 2) := by decide +kernel
theorem dX8_undo_10 : decode cX8_undo 10 = .ok (.invokevirtual 56, 3) := by decide +kernel
theorem dX8_undo_13 : decode cX8_undo 13 = .ok (.ireturn, 1) := by decide +kernel
theorem dX8_undo_14 : decode cX8_undo 14 = .ok (.aload_n 0, 1) := by decide +kernel
theorem dX8_undo_15 : decode cX8_undo 15 = .ok (.dup, 1) := by decide +kernel
theorem dX8_undo_16 : decode cX8_undo 16 = .ok (.getfield 52, 3) := by decide +kernel
theorem dX8_undo_19 : decode cX8_undo 19 = .ok (.iconst 1, 1) := by decide +kernel
theorem dX8_undo_20 : decode cX8_undo 20 = .ok (.isub, 1) := by decide +kernel
theorem dX8_undo_21 : decode cX8_undo 21 = .ok (.putfield 52, 3) := by decide +kernel
theorem dX8_undo_24 : decode cX8_undo 24 = .ok (.iconst 0, 1) := by decide +kernel
theorem dX8_undo_25 : decode cX8_undo 25 = .ok (.istore_n 1, 1) := by decide +kernel
theorem dX8_undo_26 : decode cX8_undo 26 = .ok (.iload_n 1, 1) := by decide +kernel
theorem dX8_undo_27 : decode cX8_undo 27 = .ok (.sipush 556, 3) := by decide +kernel
theorem dX8_undo_30 : decode cX8_undo 30 = .ok (.if_icmp .ge 30, 3) := by decide +kernel
theorem dX8_undo_33 : decode cX8_undo 33 = .ok (.aload_n 0, 1) := by decide +kernel
theorem dX8_undo_34 : decode cX8_undo 34 = .ok (.getfield 7, 3) := by decide +kernel
theorem dX8_undo_37 : decode cX8_undo 37 = .ok (.iload_n 1, 1) := by decide +kernel
theorem dX8_undo_38 : decode cX8_undo 38 = .ok (.aload_n 0, 1) := by decide +kernel
theorem dX8_undo_39 : decode cX8_undo 39 = .ok (.getfield 13, 3) := by decide +kernel
theorem dX8_undo_42 : decode cX8_undo 42 = .ok (.sipush 556, 3) := by decide +kernel
theorem dX8_undo_45 : decode cX8_undo 45 = .ok (.aload_n 0, 1) := by decide +kernel
theorem dX8_undo_46 : decode cX8_undo 46 = .ok (.getfield 52, 3) := by decide +kernel
theorem dX8_undo_49 : decode cX8_undo 49 = .ok (.imul, 1) := by decide +kernel
theorem dX8_undo_50 : decode cX8_undo 50 = .ok (.iload_n 1, 1) := by decide +kernel
theorem dX8_undo_51 : decode cX8_undo 51 = .ok (.iadd, 1) := by decide +kernel
theorem dX8_undo_52 : decode cX8_undo 52 = .ok (.iaload, 1) := by decide +kernel
theorem dX8_undo_53 : decode cX8_undo 53 = .ok (.iastore, 1) := by decide +kernel
theorem dX8_undo_54 : decode cX8_undo 54 = .ok (.iinc 1 1, 3) := by decide +kernel
theorem dX8_undo_57 : decode cX8_undo 57 = .ok (.goto (-31), 3) := by decide +kernel
theorem dX8_undo_60 : decode cX8_undo 60 = .ok (.aload_n 0, 1) := by decide +kernel
theorem dX8_undo_61 : decode cX8_undo 61 = .ok (.getfield 52, 3) := by decide +kernel
theorem dX8_undo_64 : decode cX8_undo 64 = .ok (.ireturn, 1) := by decide +kernel
theorem dX8_becomes_0 : decode cX8_becomes 0 = .ok (.aload_n 0, 1) := by decide +kernel
theorem dX8_becomes_1 : decode cX8_becomes 1 = .ok (.invokevirtual 60, 3) := by decide +kernel
theorem dX8_becomes_4 : decode cX8_becomes 4 = .ok (.aload_n 0, 1) := by decide +kernel
theorem dX8_becomes_5 : decode cX8_becomes 5 = .ok (.getfield 7, 3) := by decide +kernel
theorem dX8_becomes_8 : decode cX8_becomes 8 = .ok (.iload_n 1, 1) := by decide +kernel
theorem dX8_becomes_9 : decode cX8_becomes 9 = .ok (.iaload, 1) := by decide +kernel
theorem dX8_becomes_10 : decode cX8_becomes 10 = .ok (.istore_n 3, 1) := by decide +kernel
theorem dX8_becomes_11 : decode cX8_becomes 11 = .ok (.aload_n 0, 1) := by decide +kernel
theorem dX8_becomes_12 : decode cX8_becomes 12 = .ok (.getfield 7, 3) := by decide +kernel
theorem dX8_becomes_15 : decode cX8_becomes 15 = .ok (.iload_n 1, 1) := by decide +kernel
theorem dX8_becomes_16 : decode cX8_becomes 16 = .ok (.iload_n 2, 1) := by decide +kernel
theorem dX8_becomes_17 : decode cX8_becomes 17 = .ok (.iastore, 1) := by decide +kernel
theorem dX8_becomes_18 : decode cX8_becomes 18 = .ok (.iload_n 3, 1) := by decide +kernel
theorem dX8_becomes_19 : decode cX8_becomes 19 = .ok (.ireturn, 1) := by decide +kernel
theorem dX8_end_0 : decode cX8_end 0 = .ok (.iload_n 1, 1) := by decide +kernel
theorem dX8_end_1 : decode cX8_end 1 = .ok (.iconst 1, 1) := by decide +kernel
theorem dX8_end_2 : decode cX8_end 2 = .ok (.sipush 250, 3) := by decide +kernel
theorem dX8_end_5 : decode cX8_end 5 = .ok (.invokestatic 48, 3) := by decide +kernel
theorem dX8_end_8 : decode cX8_end 8 = .ok (.ifCond .eq 12, 3) := by decide +kernel
theorem dX8_end_11 : decode cX8_end 11 = .ok (.aload_n 0, 1) := by decide +kernel
theorem dX8_end_12 : decode cX8_end 12 = .ok (.iconst 0, 1) := by decide +kernel
theorem dX8_end_13 : decode cX8_end 13 = .ok (.iload_n 1, 1) := by decide +kernel
theorem dX8_end_14 : decode cX8_end 14 = .ok (.invokevirtual 63, 3) := by decide +kernel
theorem dX8_end_17 : decode cX8_end 17 = .ok (.goto 9, 3) := by decide +kernel
theorem dX8_end_20 : decode cX8_end 20 = .ok (.aload_n 0, 1) := by decide +kernel
theorem dX8_end_21 : decode cX8_end 21 = .ok (.ldc 67, 2) := by decide +kernel
theorem dX8_end_23 : decode cX8_end 23 = .ok (.invokevirtual 56, 3) := by decide +kernel
theorem dX8_end_26 : decode cX8_end 26 = .ok (.ireturn, 1) := by decide +kernel
theorem dX8_camp_0 : decode cX8_camp 0 = .ok (.iload_n 1, 1) := by decide +kernel
theorem dX8_camp_1 : decode cX8_camp 1 = .ok (.iconst 1, 1) := by decide +kernel
theorem dX8_camp_2 : decode cX8_camp 2 = .ok (.sipush 249, 3) := by decide +kernel
theorem dX8_camp_5 : decode cX8_camp 5 = .ok (.invokestatic 48, 3) := by decide +kernel
theorem dX8_camp_8 : decode cX8_camp 8 = .ok (.ifCond .ne 10, 3) := by decide +kernel
theorem dX8_camp_11 : decode cX8_camp 11 = .ok (.aload_n 0, 1) := by decide +kernel
theorem dX8_camp_12 : decode cX8_camp 12 = .ok (.ldc 67, 2) := by decide +kernel
theorem dX8_camp_14 : decode cX8_camp 14 = .ok (.invokevirtual 56, 3) := by decide +kernel
theorem dX8_camp_17 : decode cX8_camp 17 = .ok (.ireturn, 1) := by decide +kernel
theorem dX8_camp_18 : decode cX8_camp 18 = .ok (.aload_n 0, 1) := by decide +kernel
theorem dX8_camp_19 : decode cX8_camp 19 = .ok (.getfield 7, 3) := by decide +kernel
theorem dX8_camp_22 : decode cX8_camp 22 = .ok (.iconst 2, 1) := by decide +kernel
theorem dX8_camp_23 : decode cX8_camp 23 = .ok (.iaload, 1) := by decide +kernel
theorem dX8_camp_24 : decode cX8_camp 24 = .ok (.bipush 14, 2) := by decide +kernel
theorem dX8_camp_26 : decode cX8_camp 26 = .ok (.if_icmp .ne 10, 3) := by decide +kernel
theorem dX8_camp_29 : decode cX8_camp 29 = .ok (.aload_n 0, 1) := by decide +kernel
theorem dX8_camp_30 : decode cX8_camp 30 = .ok (.ldc 68, 2) := by decide +kernel
theorem dX8_camp_32 : decode cX8_camp 32 = .ok (.invokevirtual 56, 3) := by decide +kernel
theorem dX8_camp_35 : decode cX8_camp 35 = .ok (.ireturn, 1) := by decide +kernel
theorem dX8_camp_36 : decode cX8_camp 36 = .ok (.aload_n 0, 1) := by decide +kernel
theorem dX8_camp_37 : decode cX8_camp 37 = .ok (.iconst 2, 1) := by decide +kernel
theorem dX8_camp_38 : decode cX8_camp 38 = .ok (.aload_n 0, 1) := by decide +kernel
theorem dX8_camp_39 : decode cX8_camp 39 = .ok (.getfield 7, 3) := by decide +kernel
theorem dX8_camp_42 : decode cX8_camp 42 = .ok (.iconst 2, 1) := by decide +kernel
theorem dX8_camp_43 : decode cX8_camp 43 = .ok (.iaload, 1) := by decide +kernel
theorem dX8_camp_44 : decode cX8_camp 44 = .ok (.iconst 1, 1) := by decide +kernel
theorem dX8_camp_45 : decode cX8_camp 45 = .ok (.iadd, 1) := by decide +kernel
theorem dX8_camp_46 : decode cX8_camp 46 = .ok (.invokevirtual 63, 3) := by decide +kernel
theorem dX8_camp_49 : decode cX8_camp 49 = .ok (.istore_n 3, 1) := by decide +kernel
theorem dX8_camp_50 : decode cX8_camp 50 = .ok (.aload_n 0, 1) := by decide +kernel
theorem dX8_camp_51 : decode cX8_camp 51 = .ok (.getfield 7, 3) := by decide +kernel
theorem dX8_camp_54 : decode cX8_camp 54 = .ok (.bipush 8, 2) := by decide +kernel
theorem dX8_camp_56 : decode cX8_camp 56 = .ok (.iconst 2, 1) := by decide +kernel
theorem dX8_camp_57 : decode cX8_camp 57 = .ok (.iload_n 3, 1) := by decide +kernel
theorem dX8_camp_58 : decode cX8_camp 58 = .ok (.imul, 1) := by decide +kernel
theorem dX8_camp_59 : decode cX8_camp 59 = .ok (.iadd, 1) := by decide +kernel
theorem dX8_camp_60 : decode cX8_camp 60 = .ok (.iload_n 1, 1) := by decide +kernel
theorem dX8_camp_61 : decode cX8_camp 61 = .ok (.iastore, 1) := by decide +kernel
theorem dX8_camp_62 : decode cX8_camp 62 = .ok (.aload_n 0, 1) := by decide +kernel
theorem dX8_camp_63 : decode cX8_camp 63 = .ok (.getfield 7, 3) := by decide +kernel
theorem dX8_camp_66 : decode cX8_camp 66 = .ok (.bipush 8, 2) := by decide +kernel
theorem dX8_camp_68 : decode cX8_camp 68 = .ok (.iconst 2, 1) := by decide +kernel
theorem dX8_camp_69 : decode cX8_camp 69 = .ok (.iload_n 3, 1) := by decide +kernel
theorem dX8_camp_70 : decode cX8_camp 70 = .ok (.imul, 1) := by decide +kernel
theorem dX8_camp_71 : decode cX8_camp 71 = .ok (.iadd, 1) := by decide +kernel
theorem dX8_camp_72 : decode cX8_camp 72 = .ok (.iconst 1, 1) := by decide +kernel
theorem dX8_camp_73 : decode cX8_camp 73 = .ok (.iadd, 1) := by decide +kernel
theorem dX8_camp_74 : decode cX8_camp 74 = .ok (.iload_n 2, 1) := by decide +kernel
theorem dX8_camp_75 : decode cX8_camp 75 = .ok (.ifCond .eq 7, 3) := by decide +kernel
theorem dX8_camp_78 : decode cX8_camp 78 = .ok (.iconst 1, 1) := by decide +kernel
theorem dX8_camp_79 : decode cX8_camp 79 = .ok (.goto 4, 3) := by decide +kernel
theorem dX8_camp_82 : decode cX8_camp 82 = .ok (.iconst 0, 1) := by decide +kernel
theorem dX8_camp_83 : decode cX8_camp 83 = .ok (.iastore, 1) := by decide +kernel
theorem dX8_camp_84 : decode cX8_camp 84 = .ok (.iload_n 3, 1) := by decide +kernel
theorem dX8_camp_85 : decode cX8_camp 85 = .ok (.ireturn, 1) := by decide +kernel
theorem dX8_rapid_0 : decode cX8_rapid 0 = .ok (.iload_n 1, 1) := by decide +kernel
theorem dX8_rapid_1 : decode cX8_rapid 1 = .ok (.iconst 1, 1) := by decide +kernel
theorem dX8_rapid_2 : decode cX8_rapid 2 = .ok (.sipush 249, 3) := by decide +kernel
theorem dX8_rapid_5 : decode cX8_rapid 5 = .ok (.invokestatic 48, 3) := by decide +kernel
theorem dX8_rapid_8 : decode cX8_rapid 8 = .ok (.ifCond .eq 17, 3) := by decide +kernel
theorem dX8_rapid_11 : decode cX8_rapid 11 = .ok (.iload_n 2, 1) := by decide +kernel
theorem dX8_rapid_12 : decode cX8_rapid 12 = .ok (.invokestatic 69, 3) := by decide +kernel
theorem dX8_rapid_15 : decode cX8_rapid 15 = .ok (.ifCond .eq 10, 3) := by decide +kernel
theorem dX8_rapid_18 : decode cX8_rapid 18 = .ok (.iload_n 3, 1) := by decide +kernel
theorem dX8_rapid_19 : decode cX8_rapid 19 = .ok (.invokestatic 69, 3) := by decide +kernel
theorem dX8_rapid_22 : decode cX8_rapid 22 = .ok (.ifCond .ne 10, 3) := by decide +kernel
theorem dX8_rapid_25 : decode cX8_rapid 25 = .ok (.aload_n 0, 1) := by decide +kernel
theorem dX8_rapid_26 : decode cX8_rapid 26 = .ok (.ldc 67, 2) := by decide +kernel
theorem dX8_rapid_28 : decode cX8_rapid 28 = .ok (.invokevirtual 56, 3) := by decide +kernel
theorem dX8_rapid_31 : decode cX8_rapid 31 = .ok (.ireturn, 1) := by decide +kernel
theorem dX8_rapid_32 : decode cX8_rapid 32 = .ok (.iload_n 2, 1) := by decide +kernel
theorem dX8_rapid_33 : decode cX8_rapid 33 = .ok (.iload_n 3, 1) := by decide +kernel
theorem dX8_rapid_34 : decode cX8_rapid 34 = .ok (.if_icmp .le 10, 3) := by decide +kernel
theorem dX8_rapid_37 : decode cX8_rapid 37 = .ok (.aload_n 0, 1) := by decide +kernel
theorem dX8_rapid_38 : decode cX8_rapid 38 = .ok (.ldc 73, 2) := by decide +kernel
theorem dX8_rapid_40 : decode cX8_rapid 40 = .ok (.invokevirtual 56, 3) := by decide +kernel
theorem dX8_rapid_43 : decode cX8_rapid 43 = .ok (.ireturn, 1) := by decide +kernel
theorem dX8_rapid_44 : decode cX8_rapid 44 = .ok (.aload_n 0, 1) := by decide +kernel
theorem dX8_rapid_45 : decode cX8_rapid 45 = .ok (.getfield 7, 3) := by decide +kernel
theorem dX8_rapid_48 : decode cX8_rapid 48 = .ok (.iconst 3, 1) := by decide +kernel
theorem dX8_rapid_49 : decode cX8_rapid 49 = .ok (.iaload, 1) := by decide +kernel
theorem dX8_rapid_50 : decode cX8_rapid 50 = .ok (.bipush 10, 2) := by decide +kernel
theorem dX8_rapid_52 : decode cX8_rapid 52 = .ok (.if_icmp .ne 10, 3) := by decide +kernel
theorem dX8_rapid_55 : decode cX8_rapid 55 = .ok (.aload_n 0, 1) := by decide +kernel
theorem dX8_rapid_56 : decode cX8_rapid 56 = .ok (.ldc 68, 2) := by decide +kernel
theorem dX8_rapid_58 : decode cX8_rapid 58 = .ok (.invokevirtual 56, 3) := by decide +kernel
theorem dX8_rapid_61 : decode cX8_rapid 61 = .ok (.ireturn, 1) := by decide +kernel
theorem dX8_rapid_62 : decode cX8_rapid 62 = .ok (.aload_n 0, 1) := by decide +kernel
theorem dX8_rapid_63 : decode cX8_rapid 63 = .ok (.iconst 3, 1) := by decide +kernel
theorem dX8_rapid_64 : decode cX8_rapid 64 = .ok (.aload_n 0, 1) := by decide +kernel
theorem dX8_rapid_65 : decode cX8_rapid 65 = .ok (.getfield 7, 3) := by decide +kernel
theorem dX8_rapid_68 : decode cX8_rapid 68 = .ok (.iconst 3, 1) := by decide +kernel
theorem dX8_rapid_69 : decode cX8_rapid 69 = .ok (.iaload, 1) := by decide +kernel
theorem dX8_rapid_70 : decode cX8_rapid 70 = .ok (.iconst 1, 1) := by decide +kernel
theorem dX8_rapid_71 : decode cX8_rapid 71 = .ok (.iadd, 1) := by decide +kernel
theorem dX8_rapid_72 : decode cX8_rapid 72 = .ok (.invokevirtual 63, 3) := by decide +kernel
theorem dX8_rapid_75 : decode cX8_rapid 75 = .ok (.istore 4, 2) := by decide +kernel
theorem dX8_rapid_77 : decode cX8_rapid 77 = .ok (.aload_n 0, 1) := by decide +kernel
theorem dX8_rapid_78 : decode cX8_rapid 78 = .ok (.getfield 7, 3) := by decide +kernel
theorem dX8_rapid_81 : decode cX8_rapid 81 = .ok (.bipush 36, 2) := by decide +kernel
theorem dX8_rapid_83 : decode cX8_rapid 83 = .ok (.iconst 3, 1) := by decide +kernel
theorem dX8_rapid_84 : decode cX8_rapid 84 = .ok (.iload 4, 2) := by decide +kernel
theorem dX8_rapid_86 : decode cX8_rapid 86 = .ok (.imul, 1) := by decide +kernel
theorem dX8_rapid_87 : decode cX8_rapid 87 = .ok (.iadd, 1) := by decide +kernel
theorem dX8_rapid_88 : decode cX8_rapid 88 = .ok (.iload_n 1, 1) := by decide +kernel
theorem dX8_rapid_89 : decode cX8_rapid 89 = .ok (.iastore, 1) := by decide +kernel
theorem dX8_rapid_90 : decode cX8_rapid 90 = .ok (.aload_n 0, 1) := by decide +kernel
theorem dX8_rapid_91 : decode cX8_rapid 91 = .ok (.getfield 7, 3) := by decide +kernel
theorem dX8_rapid_94 : decode cX8_rapid 94 = .ok (.bipush 36, 2) := by decide +kernel
theorem dX8_rapid_96 : decode cX8_rapid 96 = .ok (.iconst 3, 1) := by decide +kernel
theorem dX8_rapid_97 : decode cX8_rapid 97 = .ok (.iload 4, 2) := by decide +kernel
theorem dX8_rapid_99 : decode cX8_rapid 99 = .ok (.imul, 1) := by decide +kernel
theorem dX8_rapid_100 : decode cX8_rapid 100 = .ok (.iadd, 1) := by decide +kernel
theorem dX8_rapid_101 : decode cX8_rapid 101 = .ok (.iconst 1, 1) := by decide +kernel
theorem dX8_rapid_102 : decode cX8_rapid 102 = .ok (.iadd, 1) := by decide +kernel
theorem dX8_rapid_103 : decode cX8_rapid 103 = .ok (.iload_n 2, 1) := by decide +kernel
theorem dX8_rapid_104 : decode cX8_rapid 104 = .ok (.iastore, 1) := by decide +kernel
theorem dX8_rapid_105 : decode cX8_rapid 105 = .ok (.aload_n 0, 1) := by decide +kernel
theorem dX8_rapid_106 : decode cX8_rapid 106 = .ok (.getfield 7, 3) := by decide +kernel
theorem dX8_rapid_109 : decode cX8_rapid 109 = .ok (.bipush 36, 2) := by decide +kernel
theorem dX8_rapid_111 : decode cX8_rapid 111 = .ok (.iconst 3, 1) := by decide +kernel
theorem dX8_rapid_112 : decode cX8_rapid 112 = .ok (.iload 4, 2) := by decide +kernel
theorem dX8_rapid_114 : decode cX8_rapid 114 = .ok (.imul, 1) := by decide +kernel
theorem dX8_rapid_115 : decode cX8_rapid 115 = .ok (.iadd, 1) := by decide +kernel
theorem dX8_rapid_116 : decode cX8_rapid 116 = .ok (.iconst 2, 1) := by decide +kernel
theorem dX8_rapid_117 : decode cX8_rapid 117 = .ok (.iadd, 1) := by decide +kernel
theorem dX8_rapid_118 : decode cX8_rapid 118 = .ok (.iload_n 3, 1) := by decide +kernel
theorem dX8_rapid_119 : decode cX8_rapid 119 = .ok (.iastore, 1) := by decide +kernel
theorem dX8_rapid_120 : decode cX8_rapid 120 = .ok (.iload 4, 2) := by decide +kernel
theorem dX8_rapid_122 : decode cX8_rapid 122 = .ok (.ireturn, 1) := by decide +kernel
theorem dX8_landing_0 : decode cX8_landing 0 = .ok (.iload_n 1, 1) := by decide +kernel
theorem dX8_landing_1 : decode cX8_landing 1 = .ok (.iconst 0, 1) := by decide +kernel
theorem dX8_landing_2 : decode cX8_landing 2 = .ok (.sipush 250, 3) := by decide +kernel
theorem dX8_landing_5 : decode cX8_landing 5 = .ok (.invokestatic 48, 3) := by decide +kernel
theorem dX8_landing_8 : decode cX8_landing 8 = .ok (.ifCond .ne 10, 3) := by decide +kernel
theorem dX8_landing_11 : decode cX8_landing 11 = .ok (.aload_n 0, 1) := by decide +kernel
theorem dX8_landing_12 : decode cX8_landing 12 = .ok (.ldc 67, 2) := by decide +kernel
theorem dX8_landing_14 : decode cX8_landing 14 = .ok (.invokevirtual 56, 3) := by decide +kernel
theorem dX8_landing_17 : decode cX8_landing 17 = .ok (.ireturn, 1) := by decide +kernel
theorem dX8_landing_18 : decode cX8_landing 18 = .ok (.aload_n 0, 1) := by decide +kernel
theorem dX8_landing_19 : decode cX8_landing 19 = .ok (.getfield 7, 3) := by decide +kernel
theorem dX8_landing_22 : decode cX8_landing 22 = .ok (.iconst 4, 1) := by decide +kernel
theorem dX8_landing_23 : decode cX8_landing 23 = .ok (.iaload, 1) := by decide +kernel
theorem dX8_landing_24 : decode cX8_landing 24 = .ok (.bipush 8, 2) := by decide +kernel
theorem dX8_landing_26 : decode cX8_landing 26 = .ok (.if_icmp .ne 10, 3) := by decide +kernel
theorem dX8_landing_29 : decode cX8_landing 29 = .ok (.aload_n 0, 1) := by decide +kernel
theorem dX8_landing_30 : decode cX8_landing 30 = .ok (.ldc 68, 2) := by decide +kernel
theorem dX8_landing_32 : decode cX8_landing 32 = .ok (.invokevirtual 56, 3) := by decide +kernel
theorem dX8_landing_35 : decode cX8_landing 35 = .ok (.ireturn, 1) := by decide +kernel
theorem dX8_landing_36 : decode cX8_landing 36 = .ok (.aload_n 0, 1) := by decide +kernel
theorem dX8_landing_37 : decode cX8_landing 37 = .ok (.iconst 4, 1) := by decide +kernel
theorem dX8_landing_38 : decode cX8_landing 38 = .ok (.aload_n 0, 1) := by decide +kernel
theorem dX8_landing_39 : decode cX8_landing 39 = .ok (.getfield 7, 3) := by decide +kernel
theorem dX8_landing_42 : decode cX8_landing 42 = .ok (.iconst 4, 1) := by decide +kernel
theorem dX8_landing_43 : decode cX8_landing 43 = .ok (.iaload, 1) := by decide +kernel
theorem dX8_landing_44 : decode cX8_landing 44 = .ok (.iconst 1, 1) := by decide +kernel
theorem dX8_landing_45 : decode cX8_landing 45 = .ok (.iadd, 1) := by decide +kernel
theorem dX8_landing_46 : decode cX8_landing 46 = .ok (.invokevirtual 63, 3) := by decide +kernel
theorem dX8_landing_49 : decode cX8_landing 49 = .ok (.istore_n 2, 1) := by decide +kernel
theorem dX8_landing_50 : decode cX8_landing 50 = .ok (.aload_n 0, 1) := by decide +kernel
theorem dX8_landing_51 : decode cX8_landing 51 = .ok (.getfield 7, 3) := by decide +kernel
theorem dX8_landing_54 : decode cX8_landing 54 = .ok (.bipush 66, 2) := by decide +kernel
theorem dX8_landing_56 : decode cX8_landing 56 = .ok (.iload_n 2, 1) := by decide +kernel
theorem dX8_landing_57 : decode cX8_landing 57 = .ok (.iadd, 1) := by decide +kernel
theorem dX8_landing_58 : decode cX8_landing 58 = .ok (.iload_n 1, 1) := by decide +kernel
theorem dX8_landing_59 : decode cX8_landing 59 = .ok (.iastore, 1) := by decide +kernel
theorem dX8_landing_60 : decode cX8_landing 60 = .ok (.iload_n 2, 1) := by decide +kernel
theorem dX8_landing_61 : decode cX8_landing 61 = .ok (.iconst 1, 1) := by decide +kernel
theorem dX8_landing_62 : decode cX8_landing 62 = .ok (.iadd, 1) := by decide +kernel
theorem dX8_landing_63 : decode cX8_landing 63 = .ok (.ireturn, 1) := by decide +kernel
theorem dX8_speed_0 : decode cX8_speed 0 = .ok (.iload_n 1, 1) := by decide +kernel
theorem dX8_speed_1 : decode cX8_speed 1 = .ok (.iconst 1, 1) := by decide +kernel
theorem dX8_speed_2 : decode cX8_speed 2 = .ok (.bipush 9, 2) := by decide +kernel
theorem dX8_speed_4 : decode cX8_speed 4 = .ok (.invokestatic 48, 3) := by decide +kernel
theorem dX8_speed_7 : decode cX8_speed 7 = .ok (.ifCond .eq 12, 3) := by decide +kernel
theorem dX8_speed_10 : decode cX8_speed 10 = .ok (.aload_n 0, 1) := by decide +kernel
theorem dX8_speed_11 : decode cX8_speed 11 = .ok (.iconst 1, 1) := by decide +kernel
theorem dX8_speed_12 : decode cX8_speed 12 = .ok (.iload_n 1, 1) := by decide +kernel
theorem dX8_speed_13 : decode cX8_speed 13 = .ok (.invokevirtual 63, 3) := by decide +kernel
theorem dX8_speed_16 : decode cX8_speed 16 = .ok (.goto 9, 3) := by decide +kernel
theorem dX8_speed_19 : decode cX8_speed 19 = .ok (.aload_n 0, 1) := by decide +kernel
theorem dX8_speed_20 : decode cX8_speed 20 = .ok (.ldc 67, 2) := by decide +kernel
theorem dX8_speed_22 : decode cX8_speed 22 = .ok (.invokevirtual 56, 3) := by decide +kernel
theorem dX8_speed_25 : decode cX8_speed 25 = .ok (.ireturn, 1) := by decide +kernel
theorem dX8_water_0 : decode cX8_water 0 = .ok (.iload_n 1, 1) := by decide +kernel
theorem dX8_water_1 : decode cX8_water 1 = .ok (.invokestatic 74, 3) := by decide +kernel
theorem dX8_water_4 : decode cX8_water 4 = .ok (.ifCond .eq 35, 3) := by decide +kernel
theorem dX8_water_7 : decode cX8_water 7 = .ok (.iload_n 2, 1) := by decide +kernel
theorem dX8_water_8 : decode cX8_water 8 = .ok (.iconst 0, 1) := by decide +kernel
theorem dX8_water_9 : decode cX8_water 9 = .ok (.iconst 3, 1) := by decide +kernel
theorem dX8_water_10 : decode cX8_water 10 = .ok (.invokestatic 48, 3) := by decide +kernel
theorem dX8_water_13 : decode cX8_water 13 = .ok (.ifCond .eq 26, 3) := by decide +kernel
theorem dX8_water_16 : decode cX8_water 16 = .ok (.iload_n 3, 1) := by decide +kernel
theorem dX8_water_17 : decode cX8_water 17 = .ok (.invokestatic 69, 3) := by decide +kernel
theorem dX8_water_20 : decode cX8_water 20 = .ok (.ifCond .eq 19, 3) := by decide +kernel
theorem dX8_water_23 : decode cX8_water 23 = .ok (.aload_n 0, 1) := by decide +kernel
theorem dX8_water_24 : decode cX8_water 24 = .ok (.bipush 74, 2) := by decide +kernel
theorem dX8_water_26 : decode cX8_water 26 = .ok (.iconst 4, 1) := by decide +kernel
theorem dX8_water_27 : decode cX8_water 27 = .ok (.iload_n 1, 1) := by decide +kernel
theorem dX8_water_28 : decode cX8_water 28 = .ok (.imul, 1) := by decide +kernel
theorem dX8_water_29 : decode cX8_water 29 = .ok (.iadd, 1) := by decide +kernel
theorem dX8_water_30 : decode cX8_water 30 = .ok (.iload_n 2, 1) := by decide +kernel
theorem dX8_water_31 : decode cX8_water 31 = .ok (.iadd, 1) := by decide +kernel
theorem dX8_water_32 : decode cX8_water 32 = .ok (.iload_n 3, 1) := by decide +kernel
theorem dX8_water_33 : decode cX8_water 33 = .ok (.invokevirtual 63, 3) := by decide +kernel
theorem dX8_water_36 : decode cX8_water 36 = .ok (.goto 9, 3) := by decide +kernel
theorem dX8_water_39 : decode cX8_water 39 = .ok (.aload_n 0, 1) := by decide +kernel
theorem dX8_water_40 : decode cX8_water 40 = .ok (.ldc 67, 2) := by decide +kernel
theorem dX8_water_42 : decode cX8_water 42 = .ok (.invokevirtual 56, 3) := by decide +kernel
theorem dX8_water_45 : decode cX8_water 45 = .ok (.ireturn, 1) := by decide +kernel
theorem dX8_waterOf_0 : decode cX8_waterOf 0 = .ok (.bipush 24, 2) := by decide +kernel
theorem dX8_waterOf_2 : decode cX8_waterOf 2 = .ok (.iload_n 2, 1) := by decide +kernel
theorem dX8_waterOf_3 : decode cX8_waterOf 3 = .ok (.imul, 1) := by decide +kernel
theorem dX8_waterOf_4 : decode cX8_waterOf 4 = .ok (.iload_n 3, 1) := by decide +kernel
theorem dX8_waterOf_5 : decode cX8_waterOf 5 = .ok (.iadd, 1) := by decide +kernel
theorem dX8_waterOf_6 : decode cX8_waterOf 6 = .ok (.iload_n 1, 1) := by decide +kernel
theorem dX8_waterOf_7 : decode cX8_waterOf 7 = .ok (.aload_n 0, 1) := by decide +kernel
theorem dX8_waterOf_8 : decode cX8_waterOf 8 = .ok (.getfield 7, 3) := by decide +kernel
theorem dX8_waterOf_11 : decode cX8_waterOf 11 = .ok (.iconst 1, 1) := by decide +kernel
theorem dX8_waterOf_12 : decode cX8_waterOf 12 = .ok (.iaload, 1) := by decide +kernel
theorem dX8_waterOf_13 : decode cX8_waterOf 13 = .ok (.idiv, 1) := by decide +kernel
theorem dX8_waterOf_14 : decode cX8_waterOf 14 = .ok (.isub, 1) := by decide +kernel
theorem dX8_waterOf_15 : decode cX8_waterOf 15 = .ok (.istore 4, 2) := by decide +kernel
theorem dX8_waterOf_17 : decode cX8_waterOf 17 = .ok (.aload_n 0, 1) := by decide +kernel
theorem dX8_waterOf_18 : decode cX8_waterOf 18 = .ok (.getfield 7, 3) := by decide +kernel
theorem dX8_waterOf_21 : decode cX8_waterOf 21 = .ok (.bipush 74, 2) := by decide +kernel
theorem dX8_waterOf_23 : decode cX8_waterOf 23 = .ok (.iload 4, 2) := by decide +kernel
theorem dX8_waterOf_25 : decode cX8_waterOf 25 = .ok (.ifCond .ge 7, 3) := by decide +kernel
theorem dX8_waterOf_28 : decode cX8_waterOf 28 = .ok (.iconst 0, 1) := by decide +kernel
theorem dX8_waterOf_29 : decode cX8_waterOf 29 = .ok (.goto 8, 3) := by decide +kernel
theorem dX8_waterOf_32 : decode cX8_waterOf 32 = .ok (.iload 4, 2) := by decide +kernel
theorem dX8_waterOf_34 : decode cX8_waterOf 34 = .ok (.bipush 6, 2) := by decide +kernel
theorem dX8_waterOf_36 : decode cX8_waterOf 36 = .ok (.idiv, 1) := by decide +kernel
theorem dX8_waterOf_37 : decode cX8_waterOf 37 = .ok (.iadd, 1) := by decide +kernel
theorem dX8_waterOf_38 : decode cX8_waterOf 38 = .ok (.iaload, 1) := by decide +kernel
theorem dX8_waterOf_39 : decode cX8_waterOf 39 = .ok (.ireturn, 1) := by decide +kernel
theorem dX8_waterAt_0 : decode cX8_waterAt 0 = .ok (.iload_n 1, 1) := by decide +kernel
theorem dX8_waterAt_1 : decode cX8_waterAt 1 = .ok (.iconst 0, 1) := by decide +kernel
theorem dX8_waterAt_2 : decode cX8_waterAt 2 = .ok (.sipush 250, 3) := by decide +kernel
theorem dX8_waterAt_5 : decode cX8_waterAt 5 = .ok (.invokestatic 48, 3) := by decide +kernel
theorem dX8_waterAt_8 : decode cX8_waterAt 8 = .ok (.ifCond .eq 30, 3) := by decide +kernel
theorem dX8_waterAt_11 : decode cX8_waterAt 11 = .ok (.iload_n 2, 1) := by decide +kernel
theorem dX8_waterAt_12 : decode cX8_waterAt 12 = .ok (.invokestatic 74, 3) := by decide +kernel
theorem dX8_waterAt_15 : decode cX8_waterAt 15 = .ok (.ifCond .eq 23, 3) := by decide +kernel
theorem dX8_waterAt_18 : decode cX8_waterAt 18 = .ok (.iload_n 3, 1) := by decide +kernel
theorem dX8_waterAt_19 : decode cX8_waterAt 19 = .ok (.iconst 0, 1) := by decide +kernel
theorem dX8_waterAt_20 : decode cX8_waterAt 20 = .ok (.bipush 23, 2) := by decide +kernel
theorem dX8_waterAt_22 : decode cX8_waterAt 22 = .ok (.invokestatic 48, 3) := by decide +kernel
theorem dX8_waterAt_25 : decode cX8_waterAt 25 = .ok (.ifCond .eq 13, 3) := by decide +kernel
theorem dX8_waterAt_28 : decode cX8_waterAt 28 = .ok (.aload_n 0, 1) := by decide +kernel
theorem dX8_waterAt_29 : decode cX8_waterAt 29 = .ok (.iload_n 1, 1) := by decide +kernel
theorem dX8_waterAt_30 : decode cX8_waterAt 30 = .ok (.iload_n 2, 1) := by decide +kernel
theorem dX8_waterAt_31 : decode cX8_waterAt 31 = .ok (.iload_n 3, 1) := by decide +kernel
theorem dX8_waterAt_32 : decode cX8_waterAt 32 = .ok (.invokevirtual 77, 3) := by decide +kernel
theorem dX8_waterAt_35 : decode cX8_waterAt 35 = .ok (.goto 9, 3) := by decide +kernel
theorem dX8_waterAt_38 : decode cX8_waterAt 38 = .ok (.aload_n 0, 1) := by decide +kernel
theorem dX8_waterAt_39 : decode cX8_waterAt 39 = .ok (.ldc 67, 2) := by decide +kernel
theorem dX8_waterAt_41 : decode cX8_waterAt 41 = .ok (.invokevirtual 56, 3) := by decide +kernel
theorem dX8_waterAt_44 : decode cX8_waterAt 44 = .ok (.ireturn, 1) := by decide +kernel
theorem dX8_hourOf_0 : decode cX8_hourOf 0 = .ok (.aload_n 0, 1) := by decide +kernel
theorem dX8_hourOf_1 : decode cX8_hourOf 1 = .ok (.getfield 7, 3) := by decide +kernel
theorem dX8_hourOf_4 : decode cX8_hourOf 4 = .ok (.bipush 36, 2) := by decide +kernel
theorem dX8_hourOf_6 : decode cX8_hourOf 6 = .ok (.iconst 3, 1) := by decide +kernel
theorem dX8_hourOf_7 : decode cX8_hourOf 7 = .ok (.iload_n 1, 1) := by decide +kernel
theorem dX8_hourOf_8 : decode cX8_hourOf 8 = .ok (.imul, 1) := by decide +kernel
theorem dX8_hourOf_9 : decode cX8_hourOf 9 = .ok (.iadd, 1) := by decide +kernel
theorem dX8_hourOf_10 : decode cX8_hourOf 10 = .ok (.iconst 1, 1) := by decide +kernel
theorem dX8_hourOf_11 : decode cX8_hourOf 11 = .ok (.iadd, 1) := by decide +kernel
theorem dX8_hourOf_12 : decode cX8_hourOf 12 = .ok (.iaload, 1) := by decide +kernel
theorem dX8_hourOf_13 : decode cX8_hourOf 13 = .ok (.iload_n 3, 1) := by decide +kernel
theorem dX8_hourOf_14 : decode cX8_hourOf 14 = .ok (.iconst 3, 1) := by decide +kernel
theorem dX8_hourOf_15 : decode cX8_hourOf 15 = .ok (.if_icmp .ne 8, 3) := by decide +kernel
theorem dX8_hourOf_18 : decode cX8_hourOf 18 = .ok (.bipush 50, 2) := by decide +kernel
theorem dX8_hourOf_20 : decode cX8_hourOf 20 = .ok (.goto 4, 3) := by decide +kernel
theorem dX8_hourOf_23 : decode cX8_hourOf 23 = .ok (.iconst 0, 1) := by decide +kernel
theorem dX8_hourOf_24 : decode cX8_hourOf 24 = .ok (.isub, 1) := by decide +kernel
theorem dX8_hourOf_25 : decode cX8_hourOf 25 = .ok (.istore 4, 2) := by decide +kernel
theorem dX8_hourOf_27 : decode cX8_hourOf 27 = .ok (.bipush 8, 2) := by decide +kernel
theorem dX8_hourOf_29 : decode cX8_hourOf 29 = .ok (.istore 5, 2) := by decide +kernel
theorem dX8_hourOf_31 : decode cX8_hourOf 31 = .ok (.iload 5, 2) := by decide +kernel
theorem dX8_hourOf_33 : decode cX8_hourOf 33 = .ok (.bipush 17, 2) := by decide +kernel
theorem dX8_hourOf_35 : decode cX8_hourOf 35 = .ok (.if_icmp .gt 51, 3) := by decide +kernel
theorem dX8_hourOf_38 : decode cX8_hourOf 38 = .ok (.aload_n 0, 1) := by decide +kernel
theorem dX8_hourOf_39 : decode cX8_hourOf 39 = .ok (.aload_n 0, 1) := by decide +kernel
theorem dX8_hourOf_40 : decode cX8_hourOf 40 = .ok (.getfield 7, 3) := by decide +kernel
theorem dX8_hourOf_43 : decode cX8_hourOf 43 = .ok (.bipush 36, 2) := by decide +kernel
theorem dX8_hourOf_45 : decode cX8_hourOf 45 = .ok (.iconst 3, 1) := by decide +kernel
theorem dX8_hourOf_46 : decode cX8_hourOf 46 = .ok (.iload_n 1, 1) := by decide +kernel
theorem dX8_hourOf_47 : decode cX8_hourOf 47 = .ok (.imul, 1) := by decide +kernel
theorem dX8_hourOf_48 : decode cX8_hourOf 48 = .ok (.iadd, 1) := by decide +kernel
theorem dX8_hourOf_49 : decode cX8_hourOf 49 = .ok (.iaload, 1) := by decide +kernel
theorem dX8_hourOf_50 : decode cX8_hourOf 50 = .ok (.iload_n 2, 1) := by decide +kernel
theorem dX8_hourOf_51 : decode cX8_hourOf 51 = .ok (.iload 5, 2) := by decide +kernel
theorem dX8_hourOf_53 : decode cX8_hourOf 53 = .ok (.invokevirtual 77, 3) := by decide +kernel
theorem dX8_hourOf_56 : decode cX8_hourOf 56 = .ok (.iload 4, 2) := by decide +kernel
theorem dX8_hourOf_58 : decode cX8_hourOf 58 = .ok (.aload_n 0, 1) := by decide +kernel
theorem dX8_hourOf_59 : decode cX8_hourOf 59 = .ok (.getfield 7, 3) := by decide +kernel
theorem dX8_hourOf_62 : decode cX8_hourOf 62 = .ok (.bipush 36, 2) := by decide +kernel
theorem dX8_hourOf_64 : decode cX8_hourOf 64 = .ok (.iconst 3, 1) := by decide +kernel
theorem dX8_hourOf_65 : decode cX8_hourOf 65 = .ok (.iload_n 1, 1) := by decide +kernel
theorem dX8_hourOf_66 : decode cX8_hourOf 66 = .ok (.imul, 1) := by decide +kernel
theorem dX8_hourOf_67 : decode cX8_hourOf 67 = .ok (.iadd, 1) := by decide +kernel
theorem dX8_hourOf_68 : decode cX8_hourOf 68 = .ok (.iconst 2, 1) := by decide +kernel
theorem dX8_hourOf_69 : decode cX8_hourOf 69 = .ok (.iadd, 1) := by decide +kernel
theorem dX8_hourOf_70 : decode cX8_hourOf 70 = .ok (.iaload, 1) := by decide +kernel
theorem dX8_hourOf_71 : decode cX8_hourOf 71 = .ok (.invokestatic 48, 3) := by decide +kernel
theorem dX8_hourOf_74 : decode cX8_hourOf 74 = .ok (.ifCond .eq 6, 3) := by decide +kernel
theorem dX8_hourOf_77 : decode cX8_hourOf 77 = .ok (.iload 5, 2) := by decide +kernel
theorem dX8_hourOf_79 : decode cX8_hourOf 79 = .ok (.ireturn, 1) := by decide +kernel
theorem dX8_hourOf_80 : decode cX8_hourOf 80 = .ok (.iinc 5 1, 3) := by decide +kernel
theorem dX8_hourOf_83 : decode cX8_hourOf 83 = .ok (.goto (-52), 3) := by decide +kernel
theorem dX8_hourOf_86 : decode cX8_hourOf 86 = .ok (.iconst (-1), 1) := by decide +kernel
theorem dX8_hourOf_87 : decode cX8_hourOf 87 = .ok (.ireturn, 1) := by decide +kernel
theorem dX8_runs_0 : decode cX8_runs 0 = .ok (.aload_n 0, 1) := by decide +kernel
theorem dX8_runs_1 : decode cX8_runs 1 = .ok (.iload_n 1, 1) := by decide +kernel
theorem dX8_runs_2 : decode cX8_runs 2 = .ok (.invokevirtual 81, 3) := by decide +kernel
theorem dX8_runs_5 : decode cX8_runs 5 = .ok (.ifCond .eq 29, 3) := by decide +kernel
theorem dX8_runs_8 : decode cX8_runs 8 = .ok (.iload_n 2, 1) := by decide +kernel
theorem dX8_runs_9 : decode cX8_runs 9 = .ok (.invokestatic 74, 3) := by decide +kernel
theorem dX8_runs_12 : decode cX8_runs 12 = .ok (.ifCond .eq 22, 3) := by decide +kernel
theorem dX8_runs_15 : decode cX8_runs 15 = .ok (.iload_n 3, 1) := by decide +kernel
theorem dX8_runs_16 : decode cX8_runs 16 = .ok (.iconst 0, 1) := by decide +kernel
theorem dX8_runs_17 : decode cX8_runs 17 = .ok (.iconst 3, 1) := by decide +kernel
theorem dX8_runs_18 : decode cX8_runs 18 = .ok (.invokestatic 48, 3) := by decide +kernel
theorem dX8_runs_21 : decode cX8_runs 21 = .ok (.ifCond .eq 13, 3) := by decide +kernel
theorem dX8_runs_24 : decode cX8_runs 24 = .ok (.aload_n 0, 1) := by decide +kernel
theorem dX8_runs_25 : decode cX8_runs 25 = .ok (.iload_n 1, 1) := by decide +kernel
theorem dX8_runs_26 : decode cX8_runs 26 = .ok (.iload_n 2, 1) := by decide +kernel
theorem dX8_runs_27 : decode cX8_runs 27 = .ok (.iload_n 3, 1) := by decide +kernel
theorem dX8_runs_28 : decode cX8_runs 28 = .ok (.invokevirtual 84, 3) := by decide +kernel
theorem dX8_runs_31 : decode cX8_runs 31 = .ok (.goto 9, 3) := by decide +kernel
theorem dX8_runs_34 : decode cX8_runs 34 = .ok (.aload_n 0, 1) := by decide +kernel
theorem dX8_runs_35 : decode cX8_runs 35 = .ok (.ldc 67, 2) := by decide +kernel
theorem dX8_runs_37 : decode cX8_runs 37 = .ok (.invokevirtual 56, 3) := by decide +kernel
theorem dX8_runs_40 : decode cX8_runs 40 = .ok (.ireturn, 1) := by decide +kernel
theorem dX8_trip_0 : decode cX8_trip 0 = .ok (.iload_n 1, 1) := by decide +kernel
theorem dX8_trip_1 : decode cX8_trip 1 = .ok (.iconst 0, 1) := by decide +kernel
theorem dX8_trip_2 : decode cX8_trip 2 = .ok (.iconst 3, 1) := by decide +kernel
theorem dX8_trip_3 : decode cX8_trip 3 = .ok (.invokestatic 48, 3) := by decide +kernel
theorem dX8_trip_6 : decode cX8_trip 6 = .ok (.ifCond .eq 41, 3) := by decide +kernel
theorem dX8_trip_9 : decode cX8_trip 9 = .ok (.iload_n 2, 1) := by decide +kernel
theorem dX8_trip_10 : decode cX8_trip 10 = .ok (.invokestatic 74, 3) := by decide +kernel
theorem dX8_trip_13 : decode cX8_trip 13 = .ok (.ifCond .eq 34, 3) := by decide +kernel
theorem dX8_trip_16 : decode cX8_trip 16 = .ok (.iload_n 3, 1) := by decide +kernel
theorem dX8_trip_17 : decode cX8_trip 17 = .ok (.iconst 1, 1) := by decide +kernel
theorem dX8_trip_18 : decode cX8_trip 18 = .ok (.bipush 60, 2) := by decide +kernel
theorem dX8_trip_20 : decode cX8_trip 20 = .ok (.invokestatic 48, 3) := by decide +kernel
theorem dX8_trip_23 : decode cX8_trip 23 = .ok (.ifCond .eq 24, 3) := by decide +kernel
theorem dX8_trip_26 : decode cX8_trip 26 = .ok (.iload 4, 2) := by decide +kernel
theorem dX8_trip_28 : decode cX8_trip 28 = .ok (.iconst 1, 1) := by decide +kernel
theorem dX8_trip_29 : decode cX8_trip 29 = .ok (.bipush 15, 2) := by decide +kernel
theorem dX8_trip_31 : decode cX8_trip 31 = .ok (.invokestatic 48, 3) := by decide +kernel
theorem dX8_trip_34 : decode cX8_trip 34 = .ok (.ifCond .eq 13, 3) := by decide +kernel
theorem dX8_trip_37 : decode cX8_trip 37 = .ok (.iload 5, 2) := by decide +kernel
theorem dX8_trip_39 : decode cX8_trip 39 = .ok (.iconst 0, 1) := by decide +kernel
theorem dX8_trip_40 : decode cX8_trip 40 = .ok (.iconst 2, 1) := by decide +kernel
theorem dX8_trip_41 : decode cX8_trip 41 = .ok (.invokestatic 48, 3) := by decide +kernel
theorem dX8_trip_44 : decode cX8_trip 44 = .ok (.ifCond .ne 10, 3) := by decide +kernel
theorem dX8_trip_47 : decode cX8_trip 47 = .ok (.aload_n 0, 1) := by decide +kernel
theorem dX8_trip_48 : decode cX8_trip 48 = .ok (.ldc 67, 2) := by decide +kernel
theorem dX8_trip_50 : decode cX8_trip 50 = .ok (.invokevirtual 56, 3) := by decide +kernel
theorem dX8_trip_53 : decode cX8_trip 53 = .ok (.ireturn, 1) := by decide +kernel
theorem dX8_trip_54 : decode cX8_trip 54 = .ok (.aload_n 0, 1) := by decide +kernel
theorem dX8_trip_55 : decode cX8_trip 55 = .ok (.getfield 7, 3) := by decide +kernel
theorem dX8_trip_58 : decode cX8_trip 58 = .ok (.iconst 5, 1) := by decide +kernel
theorem dX8_trip_59 : decode cX8_trip 59 = .ok (.iaload, 1) := by decide +kernel
theorem dX8_trip_60 : decode cX8_trip 60 = .ok (.bipush 10, 2) := by decide +kernel
theorem dX8_trip_62 : decode cX8_trip 62 = .ok (.if_icmp .ne 10, 3) := by decide +kernel
theorem dX8_trip_65 : decode cX8_trip 65 = .ok (.aload_n 0, 1) := by decide +kernel
theorem dX8_trip_66 : decode cX8_trip 66 = .ok (.ldc 68, 2) := by decide +kernel
theorem dX8_trip_68 : decode cX8_trip 68 = .ok (.invokevirtual 56, 3) := by decide +kernel
theorem dX8_trip_71 : decode cX8_trip 71 = .ok (.ireturn, 1) := by decide +kernel
theorem dX8_trip_72 : decode cX8_trip 72 = .ok (.aload_n 0, 1) := by decide +kernel
theorem dX8_trip_73 : decode cX8_trip 73 = .ok (.iconst 5, 1) := by decide +kernel
theorem dX8_trip_74 : decode cX8_trip 74 = .ok (.aload_n 0, 1) := by decide +kernel
theorem dX8_trip_75 : decode cX8_trip 75 = .ok (.getfield 7, 3) := by decide +kernel
theorem dX8_trip_78 : decode cX8_trip 78 = .ok (.iconst 5, 1) := by decide +kernel
theorem dX8_trip_79 : decode cX8_trip 79 = .ok (.iaload, 1) := by decide +kernel
theorem dX8_trip_80 : decode cX8_trip 80 = .ok (.iconst 1, 1) := by decide +kernel
theorem dX8_trip_81 : decode cX8_trip 81 = .ok (.iadd, 1) := by decide +kernel
theorem dX8_trip_82 : decode cX8_trip 82 = .ok (.invokevirtual 63, 3) := by decide +kernel
theorem dX8_trip_85 : decode cX8_trip 85 = .ok (.istore 6, 2) := by decide +kernel
theorem dX8_trip_87 : decode cX8_trip 87 = .ok (.aload_n 0, 1) := by decide +kernel
theorem dX8_trip_88 : decode cX8_trip 88 = .ok (.getfield 7, 3) := by decide +kernel
theorem dX8_trip_91 : decode cX8_trip 91 = .ok (.sipush 194, 3) := by decide +kernel
theorem dX8_trip_94 : decode cX8_trip 94 = .ok (.iconst 5, 1) := by decide +kernel
theorem dX8_trip_95 : decode cX8_trip 95 = .ok (.iload 6, 2) := by decide +kernel
theorem dX8_trip_97 : decode cX8_trip 97 = .ok (.imul, 1) := by decide +kernel
theorem dX8_trip_98 : decode cX8_trip 98 = .ok (.iadd, 1) := by decide +kernel
theorem dX8_trip_99 : decode cX8_trip 99 = .ok (.iconst 0, 1) := by decide +kernel
theorem dX8_trip_100 : decode cX8_trip 100 = .ok (.iadd, 1) := by decide +kernel
theorem dX8_trip_101 : decode cX8_trip 101 = .ok (.iload_n 1, 1) := by decide +kernel
theorem dX8_trip_102 : decode cX8_trip 102 = .ok (.iastore, 1) := by decide +kernel
theorem dX8_trip_103 : decode cX8_trip 103 = .ok (.aload_n 0, 1) := by decide +kernel
theorem dX8_trip_104 : decode cX8_trip 104 = .ok (.getfield 7, 3) := by decide +kernel
theorem dX8_trip_107 : decode cX8_trip 107 = .ok (.sipush 194, 3) := by decide +kernel
theorem dX8_trip_110 : decode cX8_trip 110 = .ok (.iconst 5, 1) := by decide +kernel
theorem dX8_trip_111 : decode cX8_trip 111 = .ok (.iload 6, 2) := by decide +kernel
theorem dX8_trip_113 : decode cX8_trip 113 = .ok (.imul, 1) := by decide +kernel
theorem dX8_trip_114 : decode cX8_trip 114 = .ok (.iadd, 1) := by decide +kernel
theorem dX8_trip_115 : decode cX8_trip 115 = .ok (.iconst 1, 1) := by decide +kernel
theorem dX8_trip_116 : decode cX8_trip 116 = .ok (.iadd, 1) := by decide +kernel
theorem dX8_trip_117 : decode cX8_trip 117 = .ok (.iload_n 2, 1) := by decide +kernel
theorem dX8_trip_118 : decode cX8_trip 118 = .ok (.iastore, 1) := by decide +kernel
theorem dX8_trip_119 : decode cX8_trip 119 = .ok (.aload_n 0, 1) := by decide +kernel
theorem dX8_trip_120 : decode cX8_trip 120 = .ok (.getfield 7, 3) := by decide +kernel
theorem dX8_trip_123 : decode cX8_trip 123 = .ok (.sipush 194, 3) := by decide +kernel
theorem dX8_trip_126 : decode cX8_trip 126 = .ok (.iconst 5, 1) := by decide +kernel
theorem dX8_trip_127 : decode cX8_trip 127 = .ok (.iload 6, 2) := by decide +kernel
theorem dX8_trip_129 : decode cX8_trip 129 = .ok (.imul, 1) := by decide +kernel
theorem dX8_trip_130 : decode cX8_trip 130 = .ok (.iadd, 1) := by decide +kernel
theorem dX8_trip_131 : decode cX8_trip 131 = .ok (.iconst 2, 1) := by decide +kernel
theorem dX8_trip_132 : decode cX8_trip 132 = .ok (.iadd, 1) := by decide +kernel
theorem dX8_trip_133 : decode cX8_trip 133 = .ok (.iload_n 3, 1) := by decide +kernel
theorem dX8_trip_134 : decode cX8_trip 134 = .ok (.iastore, 1) := by decide +kernel
theorem dX8_trip_135 : decode cX8_trip 135 = .ok (.aload_n 0, 1) := by decide +kernel
theorem dX8_trip_136 : decode cX8_trip 136 = .ok (.getfield 7, 3) := by decide +kernel
theorem dX8_trip_139 : decode cX8_trip 139 = .ok (.sipush 194, 3) := by decide +kernel
theorem dX8_trip_142 : decode cX8_trip 142 = .ok (.iconst 5, 1) := by decide +kernel
theorem dX8_trip_143 : decode cX8_trip 143 = .ok (.iload 6, 2) := by decide +kernel
theorem dX8_trip_145 : decode cX8_trip 145 = .ok (.imul, 1) := by decide +kernel
theorem dX8_trip_146 : decode cX8_trip 146 = .ok (.iadd, 1) := by decide +kernel
theorem dX8_trip_147 : decode cX8_trip 147 = .ok (.iconst 3, 1) := by decide +kernel
theorem dX8_trip_148 : decode cX8_trip 148 = .ok (.iadd, 1) := by decide +kernel
theorem dX8_trip_149 : decode cX8_trip 149 = .ok (.iload 4, 2) := by decide +kernel
theorem dX8_trip_151 : decode cX8_trip 151 = .ok (.iastore, 1) := by decide +kernel
theorem dX8_trip_152 : decode cX8_trip 152 = .ok (.aload_n 0, 1) := by decide +kernel
theorem dX8_trip_153 : decode cX8_trip 153 = .ok (.getfield 7, 3) := by decide +kernel
theorem dX8_trip_156 : decode cX8_trip 156 = .ok (.sipush 194, 3) := by decide +kernel
theorem dX8_trip_159 : decode cX8_trip 159 = .ok (.iconst 5, 1) := by decide +kernel
theorem dX8_trip_160 : decode cX8_trip 160 = .ok (.iload 6, 2) := by decide +kernel
theorem dX8_trip_162 : decode cX8_trip 162 = .ok (.imul, 1) := by decide +kernel
theorem dX8_trip_163 : decode cX8_trip 163 = .ok (.iadd, 1) := by decide +kernel
theorem dX8_trip_164 : decode cX8_trip 164 = .ok (.iconst 4, 1) := by decide +kernel
theorem dX8_trip_165 : decode cX8_trip 165 = .ok (.iadd, 1) := by decide +kernel
theorem dX8_trip_166 : decode cX8_trip 166 = .ok (.iload 5, 2) := by decide +kernel
theorem dX8_trip_168 : decode cX8_trip 168 = .ok (.iastore, 1) := by decide +kernel
theorem dX8_trip_169 : decode cX8_trip 169 = .ok (.aload_n 0, 1) := by decide +kernel
theorem dX8_trip_170 : decode cX8_trip 170 = .ok (.iload 6, 2) := by decide +kernel
theorem dX8_trip_172 : decode cX8_trip 172 = .ok (.invokevirtual 87, 3) := by decide +kernel
theorem dX8_trip_175 : decode cX8_trip 175 = .ok (.iload 6, 2) := by decide +kernel
theorem dX8_trip_177 : decode cX8_trip 177 = .ok (.ireturn, 1) := by decide +kernel
theorem dX8_noNights_0 : decode cX8_noNights 0 = .ok (.iconst 0, 1) := by decide +kernel
theorem dX8_noNights_1 : decode cX8_noNights 1 = .ok (.istore_n 2, 1) := by decide +kernel
theorem dX8_noNights_2 : decode cX8_noNights 2 = .ok (.iload_n 2, 1) := by decide +kernel
