theorem dX3_lowest_26 : decode cX3_lowest 26 = .ok (.ireturn, 1) := by decide +kernel
theorem dX4_init_0 : decode cX4_init 0 = .ok (.aload_n 0, 1) := by decide +kernel
theorem dX4_init_1 : decode cX4_init 1 = .ok (.invokespecial 5, 3) := by decide +kernel
theorem dX4_init_4 : decode cX4_init 4 = .ok (.aload_n 0, 1) := by decide +kernel
theorem dX4_init_5 : decode cX4_init 5 = .ok (.iconst 2, 1) := by decide +kernel
theorem dX4_init_6 : decode cX4_init 6 = .ok (.newarray .int, 2) := by decide +kernel
theorem dX4_init_8 : decode cX4_init 8 = .ok (.dup, 1) := by decide +kernel
theorem dX4_init_9 : decode cX4_init 9 = .ok (.iconst 0, 1) := by decide +kernel
theorem dX4_init_10 : decode cX4_init 10 = .ok (.sipush 200, 3) := by decide +kernel
theorem dX4_init_13 : decode cX4_init 13 = .ok (.iastore, 1) := by decide +kernel
theorem dX4_init_14 : decode cX4_init 14 = .ok (.dup, 1) := by decide +kernel
theorem dX4_init_15 : decode cX4_init 15 = .ok (.iconst 1, 1) := by decide +kernel
theorem dX4_init_16 : decode cX4_init 16 = .ok (.iconst 4, 1) := by decide +kernel
theorem dX4_init_17 : decode cX4_init 17 = .ok (.iastore, 1) := by decide +kernel
theorem dX4_init_18 : decode cX4_init 18 = .ok (.putfield 11, 3) := by decide +kernel
theorem dX4_init_21 : decode cX4_init 21 = .ok (.aload_n 0, 1) := by decide +kernel
theorem dX4_init_22 : decode cX4_init 22 = .ok (.iconst 3, 1) := by decide +kernel
theorem dX4_init_23 : decode cX4_init 23 = .ok (.newarray .int, 2) := by decide +kernel
theorem dX4_init_25 : decode cX4_init 25 = .ok (.putfield 15, 3) := by decide +kernel
theorem dX4_init_28 : decode cX4_init 28 = .ok (.aload_n 0, 1) := by decide +kernel
theorem dX4_init_29 : decode cX4_init 29 = .ok (.bipush 120, 2) := by decide +kernel
theorem dX4_init_31 : decode cX4_init 31 = .ok (.newarray .int, 2) := by decide +kernel
theorem dX4_init_33 : decode cX4_init 33 = .ok (.putfield 18, 3) := by decide +kernel
theorem dX4_init_36 : decode cX4_init 36 = .ok (.aload_n 0, 1) := by decide +kernel
theorem dX4_init_37 : decode cX4_init 37 = .ok (.bipush 14, 2) := by decide +kernel
theorem dX4_init_39 : decode cX4_init 39 = .ok (.newarray .int, 2) := by decide +kernel
theorem dX4_init_41 : decode cX4_init 41 = .ok (.putfield 21, 3) := by decide +kernel
theorem dX4_init_44 : decode cX4_init 44 = .ok (.aload_n 0, 1) := by decide +kernel
theorem dX4_init_45 : decode cX4_init 45 = .ok (.bipush 14, 2) := by decide +kernel
theorem dX4_init_47 : decode cX4_init 47 = .ok (.newarray .boolean, 2) := by decide +kernel
theorem dX4_init_49 : decode cX4_init 49 = .ok (.putfield 24, 3) := by decide +kernel
theorem dX4_init_52 : decode cX4_init 52 = .ok (.aload_n 0, 1) := by decide +kernel
theorem dX4_init_53 : decode cX4_init 53 = .ok (.bipush 10, 2) := by decide +kernel
theorem dX4_init_55 : decode cX4_init 55 = .ok (.newarray .int, 2) := by decide +kernel
theorem dX4_init_57 : decode cX4_init 57 = .ok (.putfield 28, 3) := by decide +kernel
theorem dX4_init_60 : decode cX4_init 60 = .ok (.aload_n 0, 1) := by decide +kernel
theorem dX4_init_61 : decode cX4_init 61 = .ok (.bipush 10, 2) := by decide +kernel
theorem dX4_init_63 : decode cX4_init 63 = .ok (.newarray .int, 2) := by decide +kernel
theorem dX4_init_65 : decode cX4_init 65 = .ok (.putfield 31, 3) := by decide +kernel
theorem dX4_init_68 : decode cX4_init 68 = .ok (.aload_n 0, 1) := by decide +kernel
theorem dX4_init_69 : decode cX4_init 69 = .ok (.bipush 10, 2) := by decide +kernel
theorem dX4_init_71 : decode cX4_init 71 = .ok (.newarray .int, 2) := by decide +kernel
theorem dX4_init_73 : decode cX4_init 73 = .ok (.putfield 34, 3) := by decide +kernel
theorem dX4_init_76 : decode cX4_init 76 = .ok (.aload_n 0, 1) := by decide +kernel
theorem dX4_init_77 : decode cX4_init 77 = .ok (.bipush 8, 2) := by decide +kernel
theorem dX4_init_79 : decode cX4_init 79 = .ok (.newarray .int, 2) := by decide +kernel
theorem dX4_init_81 : decode cX4_init 81 = .ok (.putfield 37, 3) := by decide +kernel
theorem dX4_init_84 : decode cX4_init 84 = .ok (.aload_n 0, 1) := by decide +kernel
theorem dX4_init_85 : decode cX4_init 85 = .ok (.getfield 18, 3) := by decide +kernel
theorem dX4_init_88 : decode cX4_init 88 = .ok (.bipush 100, 2) := by decide +kernel
theorem dX4_init_90 : decode cX4_init 90 = .ok (.invokestatic 40, 3) := by decide +kernel
theorem dX4_init_93 : decode cX4_init 93 = .ok (.return_, 1) := by decide +kernel
theorem dX4_arriving_0 : decode cX4_arriving 0 = .ok (.iload_n 1, 1) := by decide +kernel
theorem dX4_arriving_1 : decode cX4_arriving 1 = .ok (.iconst 1, 1) := by decide +kernel
theorem dX4_arriving_2 : decode cX4_arriving 2 = .ok (.aload_n 0, 1) := by decide +kernel
theorem dX4_arriving_3 : decode cX4_arriving 3 = .ok (.getfield 11, 3) := by decide +kernel
theorem dX4_arriving_6 : decode cX4_arriving 6 = .ok (.iconst 1, 1) := by decide +kernel
theorem dX4_arriving_7 : decode cX4_arriving 7 = .ok (.iaload, 1) := by decide +kernel
theorem dX4_arriving_8 : decode cX4_arriving 8 = .ok (.invokestatic 46, 3) := by decide +kernel
theorem dX4_arriving_11 : decode cX4_arriving 11 = .ok (.idiv, 1) := by decide +kernel
theorem dX4_arriving_12 : decode cX4_arriving 12 = .ok (.istore 4, 2) := by decide +kernel
theorem dX4_arriving_14 : decode cX4_arriving 14 = .ok (.iconst 0, 1) := by decide +kernel
theorem dX4_arriving_15 : decode cX4_arriving 15 = .ok (.iload_n 2, 1) := by decide +kernel
theorem dX4_arriving_16 : decode cX4_arriving 16 = .ok (.bipush 24, 2) := by decide +kernel
theorem dX4_arriving_18 : decode cX4_arriving 18 = .ok (.imul, 1) := by decide +kernel
theorem dX4_arriving_19 : decode cX4_arriving 19 = .ok (.iload_n 3, 1) := by decide +kernel
theorem dX4_arriving_20 : decode cX4_arriving 20 = .ok (.iadd, 1) := by decide +kernel
theorem dX4_arriving_21 : decode cX4_arriving 21 = .ok (.iload 4, 2) := by decide +kernel
theorem dX4_arriving_23 : decode cX4_arriving 23 = .ok (.isub, 1) := by decide +kernel
theorem dX4_arriving_24 : decode cX4_arriving 24 = .ok (.invokestatic 46, 3) := by decide +kernel
theorem dX4_arriving_27 : decode cX4_arriving 27 = .ok (.istore 5, 2) := by decide +kernel
theorem dX4_arriving_29 : decode cX4_arriving 29 = .ok (.aload_n 0, 1) := by decide +kernel
theorem dX4_arriving_30 : decode cX4_arriving 30 = .ok (.getfield 18, 3) := by decide +kernel
theorem dX4_arriving_33 : decode cX4_arriving 33 = .ok (.iload 5, 2) := by decide +kernel
theorem dX4_arriving_35 : decode cX4_arriving 35 = .ok (.bipush 6, 2) := by decide +kernel
theorem dX4_arriving_37 : decode cX4_arriving 37 = .ok (.idiv, 1) := by decide +kernel
theorem dX4_arriving_38 : decode cX4_arriving 38 = .ok (.iaload, 1) := by decide +kernel
theorem dX4_arriving_39 : decode cX4_arriving 39 = .ok (.ireturn, 1) := by decide +kernel
theorem dX4_firstHour_0 : decode cX4_firstHour 0 = .ok (.aload_n 0, 1) := by decide +kernel
theorem dX4_firstHour_1 : decode cX4_firstHour 1 = .ok (.getfield 31, 3) := by decide +kernel
theorem dX4_firstHour_4 : decode cX4_firstHour 4 = .ok (.iload_n 1, 1) := by decide +kernel
theorem dX4_firstHour_5 : decode cX4_firstHour 5 = .ok (.iaload, 1) := by decide +kernel
theorem dX4_firstHour_6 : decode cX4_firstHour 6 = .ok (.iload_n 3, 1) := by decide +kernel
theorem dX4_firstHour_7 : decode cX4_firstHour 7 = .ok (.iconst 3, 1) := by decide +kernel
theorem dX4_firstHour_8 : decode cX4_firstHour 8 = .ok (.if_icmp .ne 8, 3) := by decide +kernel
theorem dX4_firstHour_11 : decode cX4_firstHour 11 = .ok (.bipush 50, 2) := by decide +kernel
theorem dX4_firstHour_13 : decode cX4_firstHour 13 = .ok (.goto 4, 3) := by decide +kernel
theorem dX4_firstHour_16 : decode cX4_firstHour 16 = .ok (.iconst 0, 1) := by decide +kernel
theorem dX4_firstHour_17 : decode cX4_firstHour 17 = .ok (.isub, 1) := by decide +kernel
theorem dX4_firstHour_18 : decode cX4_firstHour 18 = .ok (.istore 4, 2) := by decide +kernel
theorem dX4_firstHour_20 : decode cX4_firstHour 20 = .ok (.bipush 8, 2) := by decide +kernel
theorem dX4_firstHour_22 : decode cX4_firstHour 22 = .ok (.istore 5, 2) := by decide +kernel
theorem dX4_firstHour_24 : decode cX4_firstHour 24 = .ok (.iload 5, 2) := by decide +kernel
theorem dX4_firstHour_26 : decode cX4_firstHour 26 = .ok (.bipush 17, 2) := by decide +kernel
theorem dX4_firstHour_28 : decode cX4_firstHour 28 = .ok (.if_icmp .gt 39, 3) := by decide +kernel
theorem dX4_firstHour_31 : decode cX4_firstHour 31 = .ok (.aload_n 0, 1) := by decide +kernel
theorem dX4_firstHour_32 : decode cX4_firstHour 32 = .ok (.aload_n 0, 1) := by decide +kernel
theorem dX4_firstHour_33 : decode cX4_firstHour 33 = .ok (.getfield 28, 3) := by decide +kernel
theorem dX4_firstHour_36 : decode cX4_firstHour 36 = .ok (.iload_n 1, 1) := by decide +kernel
theorem dX4_firstHour_37 : decode cX4_firstHour 37 = .ok (.iaload, 1) := by decide +kernel
theorem dX4_firstHour_38 : decode cX4_firstHour 38 = .ok (.iload_n 2, 1) := by decide +kernel
theorem dX4_firstHour_39 : decode cX4_firstHour 39 = .ok (.iload 5, 2) := by decide +kernel
theorem dX4_firstHour_41 : decode cX4_firstHour 41 = .ok (.invokevirtual 52, 3) := by decide +kernel
theorem dX4_firstHour_44 : decode cX4_firstHour 44 = .ok (.iload 4, 2) := by decide +kernel
theorem dX4_firstHour_46 : decode cX4_firstHour 46 = .ok (.aload_n 0, 1) := by decide +kernel
theorem dX4_firstHour_47 : decode cX4_firstHour 47 = .ok (.getfield 34, 3) := by decide +kernel
theorem dX4_firstHour_50 : decode cX4_firstHour 50 = .ok (.iload_n 1, 1) := by decide +kernel
theorem dX4_firstHour_51 : decode cX4_firstHour 51 = .ok (.iaload, 1) := by decide +kernel
theorem dX4_firstHour_52 : decode cX4_firstHour 52 = .ok (.invokestatic 56, 3) := by decide +kernel
theorem dX4_firstHour_55 : decode cX4_firstHour 55 = .ok (.ifCond .eq 6, 3) := by decide +kernel
theorem dX4_firstHour_58 : decode cX4_firstHour 58 = .ok (.iload 5, 2) := by decide +kernel
theorem dX4_firstHour_60 : decode cX4_firstHour 60 = .ok (.ireturn, 1) := by decide +kernel
theorem dX4_firstHour_61 : decode cX4_firstHour 61 = .ok (.iinc 5 1, 3) := by decide +kernel
theorem dX4_firstHour_64 : decode cX4_firstHour 64 = .ok (.goto (-40), 3) := by decide +kernel
theorem dX4_firstHour_67 : decode cX4_firstHour 67 = .ok (.iconst (-1), 1) := by decide +kernel
theorem dX4_firstHour_68 : decode cX4_firstHour 68 = .ok (.ireturn, 1) := by decide +kernel
theorem dX4_closedRapids_0 : decode cX4_closedRapids 0 = .ok (.iconst 0, 1) := by decide +kernel
theorem dX4_closedRapids_1 : decode cX4_closedRapids 1 = .ok (.istore_n 3, 1) := by decide +kernel
theorem dX4_closedRapids_2 : decode cX4_closedRapids 2 = .ok (.iconst 0, 1) := by decide +kernel
theorem dX4_closedRapids_3 : decode cX4_closedRapids 3 = .ok (.istore 4, 2) := by decide +kernel
theorem dX4_closedRapids_5 : decode cX4_closedRapids 5 = .ok (.iload 4, 2) := by decide +kernel
theorem dX4_closedRapids_7 : decode cX4_closedRapids 7 = .ok (.aload_n 0, 1) := by decide +kernel
theorem dX4_closedRapids_8 : decode cX4_closedRapids 8 = .ok (.getfield 15, 3) := by decide +kernel
theorem dX4_closedRapids_11 : decode cX4_closedRapids 11 = .ok (.iconst 1, 1) := by decide +kernel
theorem dX4_closedRapids_12 : decode cX4_closedRapids 12 = .ok (.iaload, 1) := by decide +kernel
theorem dX4_closedRapids_13 : decode cX4_closedRapids 13 = .ok (.if_icmp .ge 27, 3) := by decide +kernel
theorem dX4_closedRapids_16 : decode cX4_closedRapids 16 = .ok (.aload_n 0, 1) := by decide +kernel
theorem dX4_closedRapids_17 : decode cX4_closedRapids 17 = .ok (.iload 4, 2) := by decide +kernel
theorem dX4_closedRapids_19 : decode cX4_closedRapids 19 = .ok (.iload_n 1, 1) := by decide +kernel
theorem dX4_closedRapids_20 : decode cX4_closedRapids 20 = .ok (.iload_n 2, 1) := by decide +kernel
theorem dX4_closedRapids_21 : decode cX4_closedRapids 21 = .ok (.invokevirtual 60, 3) := by decide +kernel
theorem dX4_closedRapids_24 : decode cX4_closedRapids 24 = .ok (.ifCond .ge 10, 3) := by decide +kernel
theorem dX4_closedRapids_27 : decode cX4_closedRapids 27 = .ok (.iload_n 3, 1) := by decide +kernel
theorem dX4_closedRapids_28 : decode cX4_closedRapids 28 = .ok (.iconst 1, 1) := by decide +kernel
theorem dX4_closedRapids_29 : decode cX4_closedRapids 29 = .ok (.iload 4, 2) := by decide +kernel
theorem dX4_closedRapids_31 : decode cX4_closedRapids 31 = .ok (.ishl, 1) := by decide +kernel
theorem dX4_closedRapids_32 : decode cX4_closedRapids 32 = .ok (.ior, 1) := by decide +kernel
theorem dX4_closedRapids_33 : decode cX4_closedRapids 33 = .ok (.istore_n 3, 1) := by decide +kernel
theorem dX4_closedRapids_34 : decode cX4_closedRapids 34 = .ok (.iinc 4 1, 3) := by decide +kernel
theorem dX4_closedRapids_37 : decode cX4_closedRapids 37 = .ok (.goto (-32), 3) := by decide +kernel
theorem dX4_closedRapids_40 : decode cX4_closedRapids 40 = .ok (.iload_n 3, 1) := by decide +kernel
theorem dX4_closedRapids_41 : decode cX4_closedRapids 41 = .ok (.ireturn, 1) := by decide +kernel
theorem dX4_nextClosed_0 : decode cX4_nextClosed 0 = .ok (.sipush 251, 3) := by decide +kernel
theorem dX4_nextClosed_3 : decode cX4_nextClosed 3 = .ok (.istore_n 3, 1) := by decide +kernel
theorem dX4_nextClosed_4 : decode cX4_nextClosed 4 = .ok (.iconst 0, 1) := by decide +kernel
theorem dX4_nextClosed_5 : decode cX4_nextClosed 5 = .ok (.istore 4, 2) := by decide +kernel
theorem dX4_nextClosed_7 : decode cX4_nextClosed 7 = .ok (.iload 4, 2) := by decide +kernel
theorem dX4_nextClosed_9 : decode cX4_nextClosed 9 = .ok (.aload_n 0, 1) := by decide +kernel
theorem dX4_nextClosed_10 : decode cX4_nextClosed 10 = .ok (.getfield 15, 3) := by decide +kernel
theorem dX4_nextClosed_13 : decode cX4_nextClosed 13 = .ok (.iconst 1, 1) := by decide +kernel
theorem dX4_nextClosed_14 : decode cX4_nextClosed 14 = .ok (.iaload, 1) := by decide +kernel
theorem dX4_nextClosed_15 : decode cX4_nextClosed 15 = .ok (.if_icmp .ge 41, 3) := by decide +kernel
theorem dX4_nextClosed_18 : decode cX4_nextClosed 18 = .ok (.iload_n 2, 1) := by decide +kernel
theorem dX4_nextClosed_19 : decode cX4_nextClosed 19 = .ok (.iload 4, 2) := by decide +kernel
theorem dX4_nextClosed_21 : decode cX4_nextClosed 21 = .ok (.invokestatic 63, 3) := by decide +kernel
theorem dX4_nextClosed_24 : decode cX4_nextClosed 24 = .ok (.ifCond .eq 26, 3) := by decide +kernel
theorem dX4_nextClosed_27 : decode cX4_nextClosed 27 = .ok (.aload_n 0, 1) := by decide +kernel
theorem dX4_nextClosed_28 : decode cX4_nextClosed 28 = .ok (.getfield 28, 3) := by decide +kernel
theorem dX4_nextClosed_31 : decode cX4_nextClosed 31 = .ok (.iload 4, 2) := by decide +kernel
theorem dX4_nextClosed_33 : decode cX4_nextClosed 33 = .ok (.iaload, 1) := by decide +kernel
theorem dX4_nextClosed_34 : decode cX4_nextClosed 34 = .ok (.iload_n 1, 1) := by decide +kernel
theorem dX4_nextClosed_35 : decode cX4_nextClosed 35 = .ok (.if_icmp .le 15, 3) := by decide +kernel
theorem dX4_nextClosed_38 : decode cX4_nextClosed 38 = .ok (.iload_n 3, 1) := by decide +kernel
theorem dX4_nextClosed_39 : decode cX4_nextClosed 39 = .ok (.aload_n 0, 1) := by decide +kernel
theorem dX4_nextClosed_40 : decode cX4_nextClosed 40 = .ok (.getfield 28, 3) := by decide +kernel
theorem dX4_nextClosed_43 : decode cX4_nextClosed 43 = .ok (.iload 4, 2) := by decide +kernel
theorem dX4_nextClosed_45 : decode cX4_nextClosed 45 = .ok (.iaload, 1) := by decide +kernel
theorem dX4_nextClosed_46 : decode cX4_nextClosed 46 = .ok (.invokestatic 67, 3) := by decide +kernel
theorem dX4_nextClosed_49 : decode cX4_nextClosed 49 = .ok (.istore_n 3, 1) := by decide +kernel
theorem dX4_nextClosed_50 : decode cX4_nextClosed 50 = .ok (.iinc 4 1, 3) := by decide +kernel
theorem dX4_nextClosed_53 : decode cX4_nextClosed 53 = .ok (.goto (-46), 3) := by decide +kernel
theorem dX4_nextClosed_56 : decode cX4_nextClosed 56 = .ok (.iload_n 3, 1) := by decide +kernel
theorem dX4_nextClosed_57 : decode cX4_nextClosed 57 = .ok (.ireturn, 1) := by decide +kernel
theorem dX4_mileOf_0 : decode cX4_mileOf 0 = .ok (.iload_n 1, 1) := by decide +kernel
theorem dX4_mileOf_1 : decode cX4_mileOf 1 = .ok (.aload_n 0, 1) := by decide +kernel
theorem dX4_mileOf_2 : decode cX4_mileOf 2 = .ok (.getfield 15, 3) := by decide +kernel
theorem dX4_mileOf_5 : decode cX4_mileOf 5 = .ok (.iconst 0, 1) := by decide +kernel
theorem dX4_mileOf_6 : decode cX4_mileOf 6 = .ok (.iaload, 1) := by decide +kernel
theorem dX4_mileOf_7 : decode cX4_mileOf 7 = .ok (.if_icmp .ge 12, 3) := by decide +kernel
theorem dX4_mileOf_10 : decode cX4_mileOf 10 = .ok (.aload_n 0, 1) := by decide +kernel
theorem dX4_mileOf_11 : decode cX4_mileOf 11 = .ok (.getfield 21, 3) := by decide +kernel
theorem dX4_mileOf_14 : decode cX4_mileOf 14 = .ok (.iload_n 1, 1) := by decide +kernel
theorem dX4_mileOf_15 : decode cX4_mileOf 15 = .ok (.iaload, 1) := by decide +kernel
theorem dX4_mileOf_16 : decode cX4_mileOf 16 = .ok (.goto 4, 3) := by decide +kernel
theorem dX4_mileOf_19 : decode cX4_mileOf 19 = .ok (.iconst 0, 1) := by decide +kernel
theorem dX4_mileOf_20 : decode cX4_mileOf 20 = .ok (.ireturn, 1) := by decide +kernel
theorem dX4_campsFor_0 : decode cX4_campsFor 0 = .ok (.iconst 0, 1) := by decide +kernel
theorem dX4_campsFor_1 : decode cX4_campsFor 1 = .ok (.istore_n 2, 1) := by decide +kernel
theorem dX4_campsFor_2 : decode cX4_campsFor 2 = .ok (.iconst 0, 1) := by decide +kernel
theorem dX4_campsFor_3 : decode cX4_campsFor 3 = .ok (.istore_n 3, 1) := by decide +kernel
theorem dX4_campsFor_4 : decode cX4_campsFor 4 = .ok (.iload_n 3, 1) := by decide +kernel
theorem dX4_campsFor_5 : decode cX4_campsFor 5 = .ok (.aload_n 0, 1) := by decide +kernel
theorem dX4_campsFor_6 : decode cX4_campsFor 6 = .ok (.getfield 15, 3) := by decide +kernel
theorem dX4_campsFor_9 : decode cX4_campsFor 9 = .ok (.iconst 0, 1) := by decide +kernel
theorem dX4_campsFor_10 : decode cX4_campsFor 10 = .ok (.iaload, 1) := by decide +kernel
theorem dX4_campsFor_11 : decode cX4_campsFor 11 = .ok (.if_icmp .ge 44, 3) := by decide +kernel
theorem dX4_campsFor_14 : decode cX4_campsFor 14 = .ok (.aload_n 0, 1) := by decide +kernel
theorem dX4_campsFor_15 : decode cX4_campsFor 15 = .ok (.getfield 21, 3) := by decide +kernel
theorem dX4_campsFor_18 : decode cX4_campsFor 18 = .ok (.iload_n 3, 1) := by decide +kernel
theorem dX4_campsFor_19 : decode cX4_campsFor 19 = .ok (.iaload, 1) := by decide +kernel
theorem dX4_campsFor_20 : decode cX4_campsFor 20 = .ok (.aload_n 0, 1) := by decide +kernel
theorem dX4_campsFor_21 : decode cX4_campsFor 21 = .ok (.getfield 11, 3) := by decide +kernel
theorem dX4_campsFor_24 : decode cX4_campsFor 24 = .ok (.iconst 0, 1) := by decide +kernel
theorem dX4_campsFor_25 : decode cX4_campsFor 25 = .ok (.iaload, 1) := by decide +kernel
theorem dX4_campsFor_26 : decode cX4_campsFor 26 = .ok (.if_icmp .ge 23, 3) := by decide +kernel
theorem dX4_campsFor_29 : decode cX4_campsFor 29 = .ok (.iload_n 1, 1) := by decide +kernel
theorem dX4_campsFor_30 : decode cX4_campsFor 30 = .ok (.iconst 2, 1) := by decide +kernel
theorem dX4_campsFor_31 : decode cX4_campsFor 31 = .ok (.if_icmp .ne 12, 3) := by decide +kernel
theorem dX4_campsFor_34 : decode cX4_campsFor 34 = .ok (.aload_n 0, 1) := by decide +kernel
theorem dX4_campsFor_35 : decode cX4_campsFor 35 = .ok (.getfield 24, 3) := by decide +kernel
theorem dX4_campsFor_38 : decode cX4_campsFor 38 = .ok (.iload_n 3, 1) := by decide +kernel
theorem dX4_campsFor_39 : decode cX4_campsFor 39 = .ok (.baload, 1) := by decide +kernel
theorem dX4_campsFor_40 : decode cX4_campsFor 40 = .ok (.ifCond .ne 9, 3) := by decide +kernel
theorem dX4_campsFor_43 : decode cX4_campsFor 43 = .ok (.iload_n 2, 1) := by decide +kernel
theorem dX4_campsFor_44 : decode cX4_campsFor 44 = .ok (.iconst 1, 1) := by decide +kernel
theorem dX4_campsFor_45 : decode cX4_campsFor 45 = .ok (.iload_n 3, 1) := by decide +kernel
theorem dX4_campsFor_46 : decode cX4_campsFor 46 = .ok (.ishl, 1) := by decide +kernel
theorem dX4_campsFor_47 : decode cX4_campsFor 47 = .ok (.ior, 1) := by decide +kernel
theorem dX4_campsFor_48 : decode cX4_campsFor 48 = .ok (.istore_n 2, 1) := by decide +kernel
theorem dX4_campsFor_49 : decode cX4_campsFor 49 = .ok (.iinc 3 1, 3) := by decide +kernel
theorem dX4_campsFor_52 : decode cX4_campsFor 52 = .ok (.goto (-48), 3) := by decide +kernel
theorem dX4_campsFor_55 : decode cX4_campsFor 55 = .ok (.iload_n 2, 1) := by decide +kernel
theorem dX4_campsFor_56 : decode cX4_campsFor 56 = .ok (.ireturn, 1) := by decide +kernel
theorem dX4_campsAhead_0 : decode cX4_campsAhead 0 = .ok (.aload_n 0, 1) := by decide +kernel
theorem dX4_campsAhead_1 : decode cX4_campsAhead 1 = .ok (.iload_n 1, 1) := by decide +kernel
theorem dX4_campsAhead_2 : decode cX4_campsAhead 2 = .ok (.invokevirtual 70, 3) := by decide +kernel
theorem dX4_campsAhead_5 : decode cX4_campsAhead 5 = .ok (.istore 4, 2) := by decide +kernel
theorem dX4_campsAhead_7 : decode cX4_campsAhead 7 = .ok (.iload 4, 2) := by decide +kernel
theorem dX4_campsAhead_9 : decode cX4_campsAhead 9 = .ok (.iload_n 2, 1) := by decide +kernel
theorem dX4_campsAhead_10 : decode cX4_campsAhead 10 = .ok (.iadd, 1) := by decide +kernel
theorem dX4_campsAhead_11 : decode cX4_campsAhead 11 = .ok (.aload_n 0, 1) := by decide +kernel
theorem dX4_campsAhead_12 : decode cX4_campsAhead 12 = .ok (.iload 4, 2) := by decide +kernel
theorem dX4_campsAhead_14 : decode cX4_campsAhead 14 = .ok (.iload_n 3, 1) := by decide +kernel
theorem dX4_campsAhead_15 : decode cX4_campsAhead 15 = .ok (.invokevirtual 74, 3) := by decide +kernel
theorem dX4_campsAhead_18 : decode cX4_campsAhead 18 = .ok (.iconst 1, 1) := by decide +kernel
theorem dX4_campsAhead_19 : decode cX4_campsAhead 19 = .ok (.isub, 1) := by decide +kernel
theorem dX4_campsAhead_20 : decode cX4_campsAhead 20 = .ok (.invokestatic 67, 3) := by decide +kernel
theorem dX4_campsAhead_23 : decode cX4_campsAhead 23 = .ok (.istore 5, 2) := by decide +kernel
theorem dX4_campsAhead_25 : decode cX4_campsAhead 25 = .ok (.iconst 0, 1) := by decide +kernel
theorem dX4_campsAhead_26 : decode cX4_campsAhead 26 = .ok (.istore 6, 2) := by decide +kernel
theorem dX4_campsAhead_28 : decode cX4_campsAhead 28 = .ok (.iconst 0, 1) := by decide +kernel
theorem dX4_campsAhead_29 : decode cX4_campsAhead 29 = .ok (.istore 7, 2) := by decide +kernel
theorem dX4_campsAhead_31 : decode cX4_campsAhead 31 = .ok (.iload 7, 2) := by decide +kernel
theorem dX4_campsAhead_33 : decode cX4_campsAhead 33 = .ok (.aload_n 0, 1) := by decide +kernel
theorem dX4_campsAhead_34 : decode cX4_campsAhead 34 = .ok (.getfield 15, 3) := by decide +kernel
theorem dX4_campsAhead_37 : decode cX4_campsAhead 37 = .ok (.iconst 0, 1) := by decide +kernel
theorem dX4_campsAhead_38 : decode cX4_campsAhead 38 = .ok (.iaload, 1) := by decide +kernel
theorem dX4_campsAhead_39 : decode cX4_campsAhead 39 = .ok (.if_icmp .ge 37, 3) := by decide +kernel
theorem dX4_campsAhead_42 : decode cX4_campsAhead 42 = .ok (.aload_n 0, 1) := by decide +kernel
theorem dX4_campsAhead_43 : decode cX4_campsAhead 43 = .ok (.getfield 21, 3) := by decide +kernel
theorem dX4_campsAhead_46 : decode cX4_campsAhead 46 = .ok (.iload 7, 2) := by decide +kernel
theorem dX4_campsAhead_48 : decode cX4_campsAhead 48 = .ok (.iaload, 1) := by decide +kernel
theorem dX4_campsAhead_49 : decode cX4_campsAhead 49 = .ok (.iload 4, 2) := by decide +kernel
theorem dX4_campsAhead_51 : decode cX4_campsAhead 51 = .ok (.iconst 1, 1) := by decide +kernel
theorem dX4_campsAhead_52 : decode cX4_campsAhead 52 = .ok (.iadd, 1) := by decide +kernel
theorem dX4_campsAhead_53 : decode cX4_campsAhead 53 = .ok (.iload 5, 2) := by decide +kernel
theorem dX4_campsAhead_55 : decode cX4_campsAhead 55 = .ok (.invokestatic 56, 3) := by decide +kernel
theorem dX4_campsAhead_58 : decode cX4_campsAhead 58 = .ok (.ifCond .eq 12, 3) := by decide +kernel
theorem dX4_campsAhead_61 : decode cX4_campsAhead 61 = .ok (.iload 6, 2) := by decide +kernel
theorem dX4_campsAhead_63 : decode cX4_campsAhead 63 = .ok (.iconst 1, 1) := by decide +kernel
theorem dX4_campsAhead_64 : decode cX4_campsAhead 64 = .ok (.iload 7, 2) := by decide +kernel
theorem dX4_campsAhead_66 : decode cX4_campsAhead 66 = .ok (.ishl, 1) := by decide +kernel
theorem dX4_campsAhead_67 : decode cX4_campsAhead 67 = .ok (.ior, 1) := by decide +kernel
theorem dX4_campsAhead_68 : decode cX4_campsAhead 68 = .ok (.istore 6, 2) := by decide +kernel
theorem dX4_campsAhead_70 : decode cX4_campsAhead 70 = .ok (.iinc 7 1, 3) := by decide +kernel
theorem dX4_campsAhead_73 : decode cX4_campsAhead 73 = .ok (.goto (-42), 3) := by decide +kernel
theorem dX4_campsAhead_76 : decode cX4_campsAhead 76 = .ok (.iload 6, 2) := by decide +kernel
theorem dX4_campsAhead_78 : decode cX4_campsAhead 78 = .ok (.ireturn, 1) := by decide +kernel
theorem dX4_leadsToEnd_0 : decode cX4_leadsToEnd 0 = .ok (.aload_n 0, 1) := by decide +kernel
theorem dX4_leadsToEnd_1 : decode cX4_leadsToEnd 1 = .ok (.iload_n 1, 1) := by decide +kernel
theorem dX4_leadsToEnd_2 : decode cX4_leadsToEnd 2 = .ok (.invokevirtual 70, 3) := by decide +kernel
theorem dX4_leadsToEnd_5 : decode cX4_leadsToEnd 5 = .ok (.istore 4, 2) := by decide +kernel
theorem dX4_leadsToEnd_7 : decode cX4_leadsToEnd 7 = .ok (.aload_n 0, 1) := by decide +kernel
theorem dX4_leadsToEnd_8 : decode cX4_leadsToEnd 8 = .ok (.getfield 11, 3) := by decide +kernel
theorem dX4_leadsToEnd_11 : decode cX4_leadsToEnd 11 = .ok (.iconst 0, 1) := by decide +kernel
theorem dX4_leadsToEnd_12 : decode cX4_leadsToEnd 12 = .ok (.iaload, 1) := by decide +kernel
theorem dX4_leadsToEnd_13 : decode cX4_leadsToEnd 13 = .ok (.iload 4, 2) := by decide +kernel
theorem dX4_leadsToEnd_15 : decode cX4_leadsToEnd 15 = .ok (.iload_n 2, 1) := by decide +kernel
theorem dX4_leadsToEnd_16 : decode cX4_leadsToEnd 16 = .ok (.iadd, 1) := by decide +kernel
theorem dX4_leadsToEnd_17 : decode cX4_leadsToEnd 17 = .ok (.if_icmp .gt 23, 3) := by decide +kernel
theorem dX4_leadsToEnd_20 : decode cX4_leadsToEnd 20 = .ok (.aload_n 0, 1) := by decide +kernel
theorem dX4_leadsToEnd_21 : decode cX4_leadsToEnd 21 = .ok (.getfield 11, 3) := by decide +kernel
theorem dX4_leadsToEnd_24 : decode cX4_leadsToEnd 24 = .ok (.iconst 0, 1) := by decide +kernel
theorem dX4_leadsToEnd_25 : decode cX4_leadsToEnd 25 = .ok (.iaload, 1) := by decide +kernel
theorem dX4_leadsToEnd_26 : decode cX4_leadsToEnd 26 = .ok (.aload_n 0, 1) := by decide +kernel
theorem dX4_leadsToEnd_27 : decode cX4_leadsToEnd 27 = .ok (.iload 4, 2) := by decide +kernel
theorem dX4_leadsToEnd_29 : decode cX4_leadsToEnd 29 = .ok (.iload_n 3, 1) := by decide +kernel
theorem dX4_leadsToEnd_30 : decode cX4_leadsToEnd 30 = .ok (.invokevirtual 74, 3) := by decide +kernel
theorem dX4_leadsToEnd_33 : decode cX4_leadsToEnd 33 = .ok (.if_icmp .gt 7, 3) := by decide +kernel
theorem dX4_leadsToEnd_36 : decode cX4_leadsToEnd 36 = .ok (.iconst 1, 1) := by decide +kernel
theorem dX4_leadsToEnd_37 : decode cX4_leadsToEnd 37 = .ok (.goto 4, 3) := by decide +kernel
theorem dX4_leadsToEnd_40 : decode cX4_leadsToEnd 40 = .ok (.iconst 0, 1) := by decide +kernel
theorem dX4_leadsToEnd_41 : decode cX4_leadsToEnd 41 = .ok (.ireturn, 1) := by decide +kernel
theorem dX4_minutesOut_0 : decode cX4_minutesOut 0 = .ok (.iload_n 2, 1) := by decide +kernel
theorem dX4_minutesOut_1 : decode cX4_minutesOut 1 = .ok (.ifCond .eq 8, 3) := by decide +kernel
theorem dX4_minutesOut_4 : decode cX4_minutesOut 4 = .ok (.bipush 20, 2) := by decide +kernel
theorem dX4_minutesOut_6 : decode cX4_minutesOut 6 = .ok (.goto 5, 3) := by decide +kernel
theorem dX4_minutesOut_9 : decode cX4_minutesOut 9 = .ok (.bipush 60, 2) := by decide +kernel
theorem dX4_minutesOut_11 : decode cX4_minutesOut 11 = .ok (.istore_n 3, 1) := by decide +kernel
theorem dX4_minutesOut_12 : decode cX4_minutesOut 12 = .ok (.sipush 15001, 3) := by decide +kernel
theorem dX4_minutesOut_15 : decode cX4_minutesOut 15 = .ok (.istore 4, 2) := by decide +kernel
theorem dX4_minutesOut_17 : decode cX4_minutesOut 17 = .ok (.iconst 0, 1) := by decide +kernel
theorem dX4_minutesOut_18 : decode cX4_minutesOut 18 = .ok (.istore 5, 2) := by decide +kernel
theorem dX4_minutesOut_20 : decode cX4_minutesOut 20 = .ok (.iload 5, 2) := by decide +kernel
theorem dX4_minutesOut_22 : decode cX4_minutesOut 22 = .ok (.aload_n 0, 1) := by decide +kernel
theorem dX4_minutesOut_23 : decode cX4_minutesOut 23 = .ok (.getfield 15, 3) := by decide +kernel
theorem dX4_minutesOut_26 : decode cX4_minutesOut 26 = .ok (.iconst 2, 1) := by decide +kernel
theorem dX4_minutesOut_27 : decode cX4_minutesOut 27 = .ok (.iaload, 1) := by decide +kernel
theorem dX4_minutesOut_28 : decode cX4_minutesOut 28 = .ok (.if_icmp .ge 61, 3) := by decide +kernel
theorem dX4_minutesOut_31 : decode cX4_minutesOut 31 = .ok (.aload_n 0, 1) := by decide +kernel
theorem dX4_minutesOut_32 : decode cX4_minutesOut 32 = .ok (.getfield 37, 3) := by decide +kernel
theorem dX4_minutesOut_35 : decode cX4_minutesOut 35 = .ok (.iload 5, 2) := by decide +kernel
theorem dX4_minutesOut_37 : decode cX4_minutesOut 37 = .ok (.iaload, 1) := by decide +kernel
theorem dX4_minutesOut_38 : decode cX4_minutesOut 38 = .ok (.aload_n 0, 1) := by decide +kernel
theorem dX4_minutesOut_39 : decode cX4_minutesOut 39 = .ok (.getfield 11, 3) := by decide +kernel
theorem dX4_minutesOut_42 : decode cX4_minutesOut 42 = .ok (.iconst 0, 1) := by decide +kernel
theorem dX4_minutesOut_43 : decode cX4_minutesOut 43 = .ok (.iaload, 1) := by decide +kernel
theorem dX4_minutesOut_44 : decode cX4_minutesOut 44 = .ok (.if_icmp .ge 39, 3) := by decide +kernel
theorem dX4_minutesOut_47 : decode cX4_minutesOut 47 = .ok (.aload_n 0, 1) := by decide +kernel
theorem dX4_minutesOut_48 : decode cX4_minutesOut 48 = .ok (.getfield 37, 3) := by decide +kernel
theorem dX4_minutesOut_51 : decode cX4_minutesOut 51 = .ok (.iload 5, 2) := by decide +kernel
theorem dX4_minutesOut_53 : decode cX4_minutesOut 53 = .ok (.iaload, 1) := by decide +kernel
theorem dX4_minutesOut_54 : decode cX4_minutesOut 54 = .ok (.iload_n 1, 1) := by decide +kernel
theorem dX4_minutesOut_55 : decode cX4_minutesOut 55 = .ok (.isub, 1) := by decide +kernel
theorem dX4_minutesOut_56 : decode cX4_minutesOut 56 = .ok (.istore 6, 2) := by decide +kernel
theorem dX4_minutesOut_58 : decode cX4_minutesOut 58 = .ok (.iload 4, 2) := by decide +kernel
theorem dX4_minutesOut_60 : decode cX4_minutesOut 60 = .ok (.iload 6, 2) := by decide +kernel
theorem dX4_minutesOut_62 : decode cX4_minutesOut 62 = .ok (.ifCond .lt 11, 3) := by decide +kernel
theorem dX4_minutesOut_65 : decode cX4_minutesOut 65 = .ok (.iload 6, 2) := by decide +kernel
theorem dX4_minutesOut_67 : decode cX4_minutesOut 67 = .ok (.bipush 12, 2) := by decide +kernel
theorem dX4_minutesOut_69 : decode cX4_minutesOut 69 = .ok (.imul, 1) := by decide +kernel
theorem dX4_minutesOut_70 : decode cX4_minutesOut 70 = .ok (.goto 8, 3) := by decide +kernel
theorem dX4_minutesOut_73 : decode cX4_minutesOut 73 = .ok (.iload 6, 2) := by decide +kernel
theorem dX4_minutesOut_75 : decode cX4_minutesOut 75 = .ok (.ineg, 1) := by decide +kernel
theorem dX4_minutesOut_76 : decode cX4_minutesOut 76 = .ok (.iload_n 3, 1) := by decide +kernel
theorem dX4_minutesOut_77 : decode cX4_minutesOut 77 = .ok (.imul, 1) := by decide +kernel
theorem dX4_minutesOut_78 : decode cX4_minutesOut 78 = .ok (.invokestatic 67, 3) := by decide +kernel
theorem dX4_minutesOut_81 : decode cX4_minutesOut 81 = .ok (.istore 4, 2) := by decide +kernel
theorem dX4_minutesOut_83 : decode cX4_minutesOut 83 = .ok (.iinc 5 1, 3) := by decide +kernel
theorem dX4_minutesOut_86 : decode cX4_minutesOut 86 = .ok (.goto (-66), 3) := by decide +kernel
theorem dX4_minutesOut_89 : decode cX4_minutesOut 89 = .ok (.iload 4, 2) := by decide +kernel
theorem dX4_minutesOut_91 : decode cX4_minutesOut 91 = .ok (.ireturn, 1) := by decide +kernel
theorem dX5_init_0 : decode cX5_init 0 = .ok (.aload_n 0, 1) := by decide +kernel
theorem dX5_init_1 : decode cX5_init 1 = .ok (.invokespecial 1, 3) := by decide +kernel
theorem dX5_init_4 : decode cX5_init 4 = .ok (.aload_n 0, 1) := by decide +kernel
theorem dX5_init_5 : decode cX5_init 5 = .ok (.iconst 0, 1) := by decide +kernel
theorem dX5_init_6 : decode cX5_init 6 = .ok (.putfield 7, 3) := by decide +kernel
theorem dX5_init_9 : decode cX5_init 9 = .ok (.aload_n 0, 1) := by decide +kernel
theorem dX5_init_10 : decode cX5_init 10 = .ok (.iconst 0, 1) := by decide +kernel
theorem dX5_init_11 : decode cX5_init 11 = .ok (.putfield 13, 3) := by decide +kernel
theorem dX5_init_14 : decode cX5_init 14 = .ok (.aload_n 0, 1) := by decide +kernel
theorem dX5_init_15 : decode cX5_init 15 = .ok (.bipush 40, 2) := by decide +kernel
theorem dX5_init_17 : decode cX5_init 17 = .ok (.newarray .int, 2) := by decide +kernel
theorem dX5_init_19 : decode cX5_init 19 = .ok (.putfield 16, 3) := by decide +kernel
theorem dX5_init_22 : decode cX5_init 22 = .ok (.return_, 1) := by decide +kernel
theorem dX5_isMissing_0 : decode cX5_isMissing 0 = .ok (.aload_n 0, 1) := by decide +kernel
theorem dX5_isMissing_1 : decode cX5_isMissing 1 = .ok (.getfield 7, 3) := by decide +kernel
theorem dX5_isMissing_4 : decode cX5_isMissing 4 = .ok (.ifCond .ne 7, 3) := by decide +kernel
theorem dX5_isMissing_7 : decode cX5_isMissing 7 = .ok (.iconst 1, 1) := by decide +kernel
theorem dX5_isMissing_8 : decode cX5_isMissing 8 = .ok (.goto 4, 3) := by decide +kernel
theorem dX5_isMissing_11 : decode cX5_isMissing 11 = .ok (.iconst 0, 1) := by decide +kernel
theorem dX5_isMissing_12 : decode cX5_isMissing 12 = .ok (.ireturn, 1) := by decide +kernel
theorem dX5_renew_0 : decode cX5_renew 0 = .ok (.aload_n 0, 1) := by decide +kernel
theorem dX5_renew_1 : decode cX5_renew 1 = .ok (.iload_n 1, 1) := by decide +kernel
theorem dX5_renew_2 : decode cX5_renew 2 = .ok (.putfield 7, 3) := by decide +kernel
theorem dX5_renew_5 : decode cX5_renew 5 = .ok (.aload_n 0, 1) := by decide +kernel
theorem dX5_renew_6 : decode cX5_renew 6 = .ok (.aload_n 0, 1) := by decide +kernel
theorem dX5_renew_7 : decode cX5_renew 7 = .ok (.invokevirtual 20, 3) := by decide +kernel
theorem dX5_renew_10 : decode cX5_renew 10 = .ok (.ifCond .eq 7, 3) := by decide +kernel
theorem dX5_renew_13 : decode cX5_renew 13 = .ok (.iconst 0, 1) := by decide +kernel
theorem dX5_renew_14 : decode cX5_renew 14 = .ok (.goto 4, 3) := by decide +kernel
theorem dX5_renew_17 : decode cX5_renew 17 = .ok (.iload_n 2, 1) := by decide +kernel
theorem dX5_renew_18 : decode cX5_renew 18 = .ok (.putfield 13, 3) := by decide +kernel
theorem dX5_renew_21 : decode cX5_renew 21 = .ok (.aload_n 0, 1) := by decide +kernel
theorem dX5_renew_22 : decode cX5_renew 22 = .ok (.getfield 16, 3) := by decide +kernel
theorem dX5_renew_25 : decode cX5_renew 25 = .ok (.iconst 0, 1) := by decide +kernel
theorem dX5_renew_26 : decode cX5_renew 26 = .ok (.invokestatic 24, 3) := by decide +kernel
theorem dX5_renew_29 : decode cX5_renew 29 = .ok (.aload_n 0, 1) := by decide +kernel
theorem dX5_renew_30 : decode cX5_renew 30 = .ok (.getfield 13, 3) := by decide +kernel
theorem dX5_renew_33 : decode cX5_renew 33 = .ok (.ireturn, 1) := by decide +kernel
theorem dX5_lowest_0 : decode cX5_lowest 0 = .ok (.aload_n 0, 1) := by decide +kernel
theorem dX5_lowest_1 : decode cX5_lowest 1 = .ok (.getfield 7, 3) := by decide +kernel
theorem dX5_lowest_4 : decode cX5_lowest 4 = .ok (.lookupswitch 34 #[(8, 28), (16, 31)], 28) := by decide +kernel
theorem dX5_lowest_32 : decode cX5_lowest 32 = .ok (.iload_n 1, 1) := by decide +kernel
theorem dX5_lowest_33 : decode cX5_lowest 33 = .ok (.i2b, 1) := by decide +kernel
theorem dX5_lowest_34 : decode cX5_lowest 34 = .ok (.ireturn, 1) := by decide +kernel
theorem dX5_lowest_35 : decode cX5_lowest 35 = .ok (.iload_n 1, 1) := by decide +kernel
theorem dX5_lowest_36 : decode cX5_lowest 36 = .ok (.i2s, 1) := by decide +kernel
theorem dX5_lowest_37 : decode cX5_lowest 37 = .ok (.ireturn, 1) := by decide +kernel
theorem dX5_lowest_38 : decode cX5_lowest 38 = .ok (.iload_n 1, 1) := by decide +kernel
theorem dX5_lowest_39 : decode cX5_lowest 39 = .ok (.ireturn, 1) := by decide +kernel
theorem dX5_has_0 : decode cX5_has 0 = .ok (.iload_n 1, 1) := by decide +kernel
theorem dX5_has_1 : decode cX5_has 1 = .ok (.ifCond .lt 29, 3) := by decide +kernel
theorem dX5_has_4 : decode cX5_has 4 = .ok (.iload_n 2, 1) := by decide +kernel
theorem dX5_has_5 : decode cX5_has 5 = .ok (.ifCond .lt 25, 3) := by decide +kernel
theorem dX5_has_8 : decode cX5_has 8 = .ok (.iload_n 1, 1) := by decide +kernel
theorem dX5_has_9 : decode cX5_has 9 = .ok (.aload_n 0, 1) := by decide +kernel
theorem dX5_has_10 : decode cX5_has 10 = .ok (.getfield 13, 3) := by decide +kernel
theorem dX5_has_13 : decode cX5_has 13 = .ok (.if_icmp .gt 17, 3) := by decide +kernel
theorem dX5_has_16 : decode cX5_has 16 = .ok (.iload_n 2, 1) := by decide +kernel
theorem dX5_has_17 : decode cX5_has 17 = .ok (.aload_n 0, 1) := by decide +kernel
theorem dX5_has_18 : decode cX5_has 18 = .ok (.getfield 13, 3) := by decide +kernel
theorem dX5_has_21 : decode cX5_has 21 = .ok (.iload_n 1, 1) := by decide +kernel
theorem dX5_has_22 : decode cX5_has 22 = .ok (.isub, 1) := by decide +kernel
theorem dX5_has_23 : decode cX5_has 23 = .ok (.if_icmp .gt 7, 3) := by decide +kernel
theorem dX5_has_26 : decode cX5_has 26 = .ok (.iconst 1, 1) := by decide +kernel
theorem dX5_has_27 : decode cX5_has 27 = .ok (.goto 4, 3) := by decide +kernel
theorem dX5_has_30 : decode cX5_has 30 = .ok (.iconst 0, 1) := by decide +kernel
theorem dX5_has_31 : decode cX5_has 31 = .ok (.ireturn, 1) := by decide +kernel
theorem dX6_init_0 : decode cX6_init 0 = .ok (.aload_n 0, 1) := by decide +kernel
theorem dX6_init_1 : decode cX6_init 1 = .ok (.invokespecial 5, 3) := by decide +kernel
theorem dX6_init_4 : decode cX6_init 4 = .ok (.aload_n 0, 1) := by decide +kernel
theorem dX6_init_5 : decode cX6_init 5 = .ok (.iconst 1, 1) := by decide +kernel
theorem dX6_init_6 : decode cX6_init 6 = .ok (.newarray .int, 2) := by decide +kernel
theorem dX6_init_8 : decode cX6_init 8 = .ok (.putfield 11, 3) := by decide +kernel
theorem dX6_init_11 : decode cX6_init 11 = .ok (.aload_n 0, 1) := by decide +kernel
theorem dX6_init_12 : decode cX6_init 12 = .ok (.sipush 350, 3) := by decide +kernel
theorem dX6_init_15 : decode cX6_init 15 = .ok (.newarray .int, 2) := by decide +kernel
theorem dX6_init_17 : decode cX6_init 17 = .ok (.putfield 15, 3) := by decide +kernel
theorem dX6_init_20 : decode cX6_init 20 = .ok (.aload_n 0, 1) := by decide +kernel
theorem dX6_init_21 : decode cX6_init 21 = .ok (.sipush 350, 3) := by decide +kernel
theorem dX6_init_24 : decode cX6_init 24 = .ok (.newarray .int, 2) := by decide +kernel
theorem dX6_init_26 : decode cX6_init 26 = .ok (.putfield 18, 3) := by decide +kernel
theorem dX6_init_29 : decode cX6_init 29 = .ok (.return_, 1) := by decide +kernel
theorem dX6_size_0 : decode cX6_size 0 = .ok (.aload_n 0, 1) := by decide +kernel
theorem dX6_size_1 : decode cX6_size 1 = .ok (.getfield 11, 3) := by decide +kernel
theorem dX6_size_4 : decode cX6_size 4 = .ok (.iconst 0, 1) := by decide +kernel
theorem dX6_size_5 : decode cX6_size 5 = .ok (.iaload, 1) := by decide +kernel
theorem dX6_size_6 : decode cX6_size 6 = .ok (.ireturn, 1) := by decide +kernel
theorem dX6_index_0 : decode cX6_index 0 = .ok (.iload_n 1, 1) := by decide +kernel
theorem dX6_index_1 : decode cX6_index 1 = .ok (.bipush 35, 2) := by decide +kernel
theorem dX6_index_3 : decode cX6_index 3 = .ok (.imul, 1) := by decide +kernel
theorem dX6_index_4 : decode cX6_index 4 = .ok (.iload_n 2, 1) := by decide +kernel
theorem dX6_index_5 : decode cX6_index 5 = .ok (.iadd, 1) := by decide +kernel
theorem dX6_index_6 : decode cX6_index 6 = .ok (.ireturn, 1) := by decide +kernel
theorem dX6_read_0 : decode cX6_read 0 = .ok (.aload_n 0, 1) := by decide +kernel
theorem dX6_read_1 : decode cX6_read 1 = .ok (.getfield 15, 3) := by decide +kernel
theorem dX6_read_4 : decode cX6_read 4 = .ok (.aload_n 0, 1) := by decide +kernel
theorem dX6_read_5 : decode cX6_read 5 = .ok (.iload_n 1, 1) := by decide +kernel
theorem dX6_read_6 : decode cX6_read 6 = .ok (.iload_n 2, 1) := by decide +kernel
theorem dX6_read_7 : decode cX6_read 7 = .ok (.invokevirtual 21, 3) := by decide +kernel
theorem dX6_read_10 : decode cX6_read 10 = .ok (.iaload, 1) := by decide +kernel
theorem dX6_read_11 : decode cX6_read 11 = .ok (.ireturn, 1) := by decide +kernel
theorem dX6_write_0 : decode cX6_write 0 = .ok (.aload_n 0, 1) := by decide +kernel
theorem dX6_write_1 : decode cX6_write 1 = .ok (.getfield 15, 3) := by decide +kernel
theorem dX6_write_4 : decode cX6_write 4 = .ok (.aload_n 0, 1) := by decide +kernel
theorem dX6_write_5 : decode cX6_write 5 = .ok (.iload_n 1, 1) := by decide +kernel
theorem dX6_write_6 : decode cX6_write 6 = .ok (.iload_n 2, 1) := by decide +kernel
theorem dX6_write_7 : decode cX6_write 7 = .ok (.invokevirtual 21, 3) := by decide +kernel
theorem dX6_write_10 : decode cX6_write 10 = .ok (.iload_n 3, 1) := by decide +kernel
theorem dX6_write_11 : decode cX6_write 11 = .ok (.iastore, 1) := by decide +kernel
theorem dX6_write_12 : decode cX6_write 12 = .ok (.return_, 1) := by decide +kernel
theorem dX6_clearNights_0 : decode cX6_clearNights 0 = .ok (.iconst 0, 1) := by decide +kernel
theorem dX6_clearNights_1 : decode cX6_clearNights 1 = .ok (.istore_n 2, 1) := by decide +kernel
theorem dX6_clearNights_2 : decode cX6_clearNights 2 = .ok (.iload_n 2, 1) := by decide +kernel
theorem dX6_clearNights_3 : decode cX6_clearNights 3 = .ok (.bipush 30, 2) := by decide +kernel
theorem dX6_clearNights_5 : decode cX6_clearNights 5 = .ok (.if_icmp .ge 18, 3) := by decide +kernel
theorem dX6_clearNights_8 : decode cX6_clearNights 8 = .ok (.aload_n 0, 1) := by decide +kernel
theorem dX6_clearNights_9 : decode cX6_clearNights 9 = .ok (.iload_n 1, 1) := by decide +kernel
theorem dX6_clearNights_10 : decode cX6_clearNights 10 = .ok (.iconst 5, 1) := by decide +kernel
theorem dX6_clearNights_11 : decode cX6_clearNights 11 = .ok (.iload_n 2, 1) := by decide +kernel
theorem dX6_clearNights_12 : decode cX6_clearNights 12 = .ok (.iadd, 1) := by decide +kernel
theorem dX6_clearNights_13 : decode cX6_clearNights 13 = .ok (.iconst (-1), 1) := by decide +kernel
theorem dX6_clearNights_14 : decode cX6_clearNights 14 = .ok (.invokevirtual 25, 3) := by decide +kernel
theorem dX6_clearNights_17 : decode cX6_clearNights 17 = .ok (.iinc 2 1, 3) := by decide +kernel
theorem dX6_clearNights_20 : decode cX6_clearNights 20 = .ok (.goto (-18), 3) := by decide +kernel
theorem dX6_clearNights_23 : decode cX6_clearNights 23 = .ok (.return_, 1) := by decide +kernel
theorem dX6_nightsOf_0 : decode cX6_nightsOf 0 = .ok (.iconst 0, 1) := by decide +kernel
theorem dX6_nightsOf_1 : decode cX6_nightsOf 1 = .ok (.istore_n 2, 1) := by decide +kernel
theorem dX6_nightsOf_2 : decode cX6_nightsOf 2 = .ok (.iconst 0, 1) := by decide +kernel
theorem dX6_nightsOf_3 : decode cX6_nightsOf 3 = .ok (.istore_n 3, 1) := by decide +kernel
theorem dX6_nightsOf_4 : decode cX6_nightsOf 4 = .ok (.iload_n 3, 1) := by decide +kernel
theorem dX6_nightsOf_5 : decode cX6_nightsOf 5 = .ok (.bipush 30, 2) := by decide +kernel
theorem dX6_nightsOf_7 : decode cX6_nightsOf 7 = .ok (.if_icmp .ge 24, 3) := by decide +kernel
theorem dX6_nightsOf_10 : decode cX6_nightsOf 10 = .ok (.aload_n 0, 1) := by decide +kernel
theorem dX6_nightsOf_11 : decode cX6_nightsOf 11 = .ok (.iload_n 1, 1) := by decide +kernel
theorem dX6_nightsOf_12 : decode cX6_nightsOf 12 = .ok (.iconst 5, 1) := by decide +kernel
theorem dX6_nightsOf_13 : decode cX6_nightsOf 13 = .ok (.iload_n 3, 1) := by decide +kernel
theorem dX6_nightsOf_14 : decode cX6_nightsOf 14 = .ok (.iadd, 1) := by decide +kernel
theorem dX6_nightsOf_15 : decode cX6_nightsOf 15 = .ok (.invokevirtual 29, 3) := by decide +kernel
theorem dX6_nightsOf_18 : decode cX6_nightsOf 18 = .ok (.iconst (-1), 1) := by decide +kernel
theorem dX6_nightsOf_19 : decode cX6_nightsOf 19 = .ok (.if_icmp .eq 6, 3) := by decide +kernel
theorem dX6_nightsOf_22 : decode cX6_nightsOf 22 = .ok (.iinc 2 1, 3) := by decide +kernel
theorem dX6_nightsOf_25 : decode cX6_nightsOf 25 = .ok (.iinc 3 1, 3) := by decide +kernel
theorem dX6_nightsOf_28 : decode cX6_nightsOf 28 = .ok (.goto (-24), 3) := by decide +kernel
theorem dX6_nightsOf_31 : decode cX6_nightsOf 31 = .ok (.iload_n 2, 1) := by decide +kernel
theorem dX6_nightsOf_32 : decode cX6_nightsOf 32 = .ok (.ireturn, 1) := by decide +kernel
theorem dX6_guest_0 : decode cX6_guest 0 = .ok (.iconst 0, 1) := by decide +kernel
theorem dX6_guest_1 : decode cX6_guest 1 = .ok (.istore_n 3, 1) := by decide +kernel
theorem dX6_guest_2 : decode cX6_guest 2 = .ok (.iload_n 3, 1) := by decide +kernel
theorem dX6_guest_3 : decode cX6_guest 3 = .ok (.aload_n 0, 1) := by decide +kernel
theorem dX6_guest_4 : decode cX6_guest 4 = .ok (.invokevirtual 32, 3) := by decide +kernel
theorem dX6_guest_7 : decode cX6_guest 7 = .ok (.if_icmp .ge 23, 3) := by decide +kernel
theorem dX6_guest_10 : decode cX6_guest 10 = .ok (.aload_n 0, 1) := by decide +kernel
theorem dX6_guest_11 : decode cX6_guest 11 = .ok (.iload_n 3, 1) := by decide +kernel
theorem dX6_guest_12 : decode cX6_guest 12 = .ok (.iconst 5, 1) := by decide +kernel
theorem dX6_guest_13 : decode cX6_guest 13 = .ok (.iload_n 2, 1) := by decide +kernel
theorem dX6_guest_14 : decode cX6_guest 14 = .ok (.iadd, 1) := by decide +kernel
theorem dX6_guest_15 : decode cX6_guest 15 = .ok (.invokevirtual 29, 3) := by decide +kernel
theorem dX6_guest_18 : decode cX6_guest 18 = .ok (.iload_n 1, 1) := by decide +kernel
theorem dX6_guest_19 : decode cX6_guest 19 = .ok (.if_icmp .ne 5, 3) := by decide +kernel
theorem dX6_guest_22 : decode cX6_guest 22 = .ok (.iload_n 3, 1) := by decide +kernel
theorem dX6_guest_23 : decode cX6_guest 23 = .ok (.ireturn, 1) := by decide +kernel
theorem dX6_guest_24 : decode cX6_guest 24 = .ok (.iinc 3 1, 3) := by decide +kernel
theorem dX6_guest_27 : decode cX6_guest 27 = .ok (.goto (-25), 3) := by decide +kernel
theorem dX6_guest_30 : decode cX6_guest 30 = .ok (.iconst (-1), 1) := by decide +kernel
theorem dX6_guest_31 : decode cX6_guest 31 = .ok (.ireturn, 1) := by decide +kernel
theorem dX6_takenFrom_0 : decode cX6_takenFrom 0 = .ok (.iconst 0, 1) := by decide +kernel
theorem dX6_takenFrom_1 : decode cX6_takenFrom 1 = .ok (.istore_n 3, 1) := by decide +kernel
theorem dX6_takenFrom_2 : decode cX6_takenFrom 2 = .ok (.iconst 0, 1) := by decide +kernel
theorem dX6_takenFrom_3 : decode cX6_takenFrom 3 = .ok (.istore 4, 2) := by decide +kernel
theorem dX6_takenFrom_5 : decode cX6_takenFrom 5 = .ok (.iload 4, 2) := by decide +kernel
theorem dX6_takenFrom_7 : decode cX6_takenFrom 7 = .ok (.aload_n 0, 1) := by decide +kernel
theorem dX6_takenFrom_8 : decode cX6_takenFrom 8 = .ok (.invokevirtual 32, 3) := by decide +kernel
theorem dX6_takenFrom_11 : decode cX6_takenFrom 11 = .ok (.if_icmp .ge 39, 3) := by decide +kernel
theorem dX6_takenFrom_14 : decode cX6_takenFrom 14 = .ok (.aload_n 0, 1) := by decide +kernel
theorem dX6_takenFrom_15 : decode cX6_takenFrom 15 = .ok (.iload 4, 2) := by decide +kernel
theorem dX6_takenFrom_17 : decode cX6_takenFrom 17 = .ok (.iconst 5, 1) := by decide +kernel
theorem dX6_takenFrom_18 : decode cX6_takenFrom 18 = .ok (.iload_n 2, 1) := by decide +kernel
theorem dX6_takenFrom_19 : decode cX6_takenFrom 19 = .ok (.iadd, 1) := by decide +kernel
theorem dX6_takenFrom_20 : decode cX6_takenFrom 20 = .ok (.invokevirtual 29, 3) := by decide +kernel
theorem dX6_takenFrom_23 : decode cX6_takenFrom 23 = .ok (.istore 5, 2) := by decide +kernel
theorem dX6_takenFrom_25 : decode cX6_takenFrom 25 = .ok (.iload 4, 2) := by decide +kernel
theorem dX6_takenFrom_27 : decode cX6_takenFrom 27 = .ok (.iload_n 1, 1) := by decide +kernel
theorem dX6_takenFrom_28 : decode cX6_takenFrom 28 = .ok (.if_icmp .eq 16, 3) := by decide +kernel
theorem dX6_takenFrom_31 : decode cX6_takenFrom 31 = .ok (.iload 5, 2) := by decide +kernel
theorem dX6_takenFrom_33 : decode cX6_takenFrom 33 = .ok (.iconst (-1), 1) := by decide +kernel
theorem dX6_takenFrom_34 : decode cX6_takenFrom 34 = .ok (.if_icmp .eq 10, 3) := by decide +kernel
theorem dX6_takenFrom_37 : decode cX6_takenFrom 37 = .ok (.iload_n 3, 1) := by decide +kernel
theorem dX6_takenFrom_38 : decode cX6_takenFrom 38 = .ok (.iconst 1, 1) := by decide +kernel
theorem dX6_takenFrom_39 : decode cX6_takenFrom 39 = .ok (.iload 5, 2) := by decide +kernel
theorem dX6_takenFrom_41 : decode cX6_takenFrom 41 = .ok (.ishl, 1) := by decide +kernel
theorem dX6_takenFrom_42 : decode cX6_takenFrom 42 = .ok (.ior, 1) := by decide +kernel
theorem dX6_takenFrom_43 : decode cX6_takenFrom 43 = .ok (.istore_n 3, 1) := by decide +kernel
theorem dX6_takenFrom_44 : decode cX6_takenFrom 44 = .ok (.iinc 4 1, 3) := by decide +kernel
theorem dX6_takenFrom_47 : decode cX6_takenFrom 47 = .ok (.goto (-42), 3) := by decide +kernel
theorem dX6_takenFrom_50 : decode cX6_takenFrom 50 = .ok (.iload_n 3, 1) := by decide +kernel
theorem dX6_takenFrom_51 : decode cX6_takenFrom 51 = .ok (.ireturn, 1) := by decide +kernel
theorem dX6_saveRows_0 : decode cX6_saveRows 0 = .ok (.aload_n 0, 1) := by decide +kernel
theorem dX6_saveRows_1 : decode cX6_saveRows 1 = .ok (.getfield 15, 3) := by decide +kernel
theorem dX6_saveRows_4 : decode cX6_saveRows 4 = .ok (.iconst 0, 1) := by decide +kernel
theorem dX6_saveRows_5 : decode cX6_saveRows 5 = .ok (.aload_n 0, 1) := by decide +kernel
theorem dX6_saveRows_6 : decode cX6_saveRows 6 = .ok (.getfield 18, 3) := by decide +kernel
theorem dX6_saveRows_9 : decode cX6_saveRows 9 = .ok (.iconst 0, 1) := by decide +kernel
theorem dX6_saveRows_10 : decode cX6_saveRows 10 = .ok (.aload_n 0, 1) := by decide +kernel
theorem dX6_saveRows_11 : decode cX6_saveRows 11 = .ok (.getfield 15, 3) := by decide +kernel
theorem dX6_saveRows_14 : decode cX6_saveRows 14 = .ok (.arraylength, 1) := by decide +kernel
theorem dX6_saveRows_15 : decode cX6_saveRows 15 = .ok (.invokestatic 36, 3) := by decide +kernel
theorem dX6_saveRows_18 : decode cX6_saveRows 18 = .ok (.return_, 1) := by decide +kernel
theorem dX6_bringRowsBack_0 : decode cX6_bringRowsBack 0 = .ok (.aload_n 0, 1) := by decide +kernel
theorem dX6_bringRowsBack_1 : decode cX6_bringRowsBack 1 = .ok (.getfield 18, 3) := by decide +kernel
theorem dX6_bringRowsBack_4 : decode cX6_bringRowsBack 4 = .ok (.iconst 0, 1) := by decide +kernel
theorem dX6_bringRowsBack_5 : decode cX6_bringRowsBack 5 = .ok (.aload_n 0, 1) := by decide +kernel
theorem dX6_bringRowsBack_6 : decode cX6_bringRowsBack 6 = .ok (.getfield 15, 3) := by decide +kernel
theorem dX6_bringRowsBack_9 : decode cX6_bringRowsBack 9 = .ok (.iconst 0, 1) := by decide +kernel
theorem dX6_bringRowsBack_10 : decode cX6_bringRowsBack 10 = .ok (.aload_n 0, 1) := by decide +kernel
theorem dX6_bringRowsBack_11 : decode cX6_bringRowsBack 11 = .ok (.getfield 15, 3) := by decide +kernel
theorem dX6_bringRowsBack_14 : decode cX6_bringRowsBack 14 = .ok (.arraylength, 1) := by decide +kernel
theorem dX6_bringRowsBack_15 : decode cX6_bringRowsBack 15 = .ok (.invokestatic 36, 3) := by decide +kernel
theorem dX6_bringRowsBack_18 : decode cX6_bringRowsBack 18 = .ok (.return_, 1) := by decide +kernel
theorem dX7_init_0 : decode cX7_init 0 = .ok (.aload_n 0, 1) := by decide +kernel
theorem dX7_init_1 : decode cX7_init 1 = .ok (.invokespecial 1, 3) := by decide +kernel
theorem dX7_init_4 : decode cX7_init 4 = .ok (.aload_n 0, 1) := by decide +kernel
theorem dX7_init_5 : decode cX7_init 5 = .ok (.new 7, 3) := by decide +kernel
theorem dX7_init_8 : decode cX7_init 8 = .ok (.dup, 1) := by decide +kernel
theorem dX7_init_9 : decode cX7_init 9 = .ok (.invokespecial 9, 3) := by decide +kernel
theorem dX7_init_12 : decode cX7_init 12 = .ok (.putfield 10, 3) := by decide +kernel
theorem dX7_init_15 : decode cX7_init 15 = .ok (.aload_n 0, 1) := by decide +kernel
theorem dX7_init_16 : decode cX7_init 16 = .ok (.new 16, 3) := by decide +kernel
theorem dX7_init_19 : decode cX7_init 19 = .ok (.dup, 1) := by decide +kernel
theorem dX7_init_20 : decode cX7_init 20 = .ok (.invokespecial 18, 3) := by decide +kernel
theorem dX7_init_23 : decode cX7_init 23 = .ok (.putfield 19, 3) := by decide +kernel
theorem dX7_init_26 : decode cX7_init 26 = .ok (.aload_n 0, 1) := by decide +kernel
theorem dX7_init_27 : decode cX7_init 27 = .ok (.new 23, 3) := by decide +kernel
theorem dX7_init_30 : decode cX7_init 30 = .ok (.dup, 1) := by decide +kernel
theorem dX7_init_31 : decode cX7_init 31 = .ok (.invokespecial 25, 3) := by decide +kernel
theorem dX7_init_34 : decode cX7_init 34 = .ok (.putfield 26, 3) := by decide +kernel
theorem dX7_init_37 : decode cX7_init 37 = .ok (.aload_n 0, 1) := by decide +kernel
theorem dX7_init_38 : decode cX7_init 38 = .ok (.new 30, 3) := by decide +kernel
theorem dX7_init_41 : decode cX7_init 41 = .ok (.dup, 1) := by decide +kernel
theorem dX7_init_42 : decode cX7_init 42 = .ok (.invokespecial 32, 3) := by decide +kernel
theorem dX7_init_45 : decode cX7_init 45 = .ok (.putfield 33, 3) := by decide +kernel
theorem dX7_init_48 : decode cX7_init 48 = .ok (.aload_n 0, 1) := by decide +kernel
theorem dX7_init_49 : decode cX7_init 49 = .ok (.new 37, 3) := by decide +kernel
theorem dX7_init_52 : decode cX7_init 52 = .ok (.dup, 1) := by decide +kernel
theorem dX7_init_53 : decode cX7_init 53 = .ok (.invokespecial 39, 3) := by decide +kernel
theorem dX7_init_56 : decode cX7_init 56 = .ok (.putfield 40, 3) := by decide +kernel
theorem dX7_init_59 : decode cX7_init 59 = .ok (.aload_n 0, 1) := by decide +kernel
theorem dX7_init_60 : decode cX7_init 60 = .ok (.iconst 4, 1) := by decide +kernel
theorem dX7_init_61 : decode cX7_init 61 = .ok (.anewarray 44, 3) := by decide +kernel
theorem dX7_init_64 : decode cX7_init 64 = .ok (.putfield 46, 3) := by decide +kernel
theorem dX7_init_67 : decode cX7_init 67 = .ok (.aload_n 0, 1) := by decide +kernel
theorem dX7_init_68 : decode cX7_init 68 = .ok (.iconst 0, 1) := by decide +kernel
theorem dX7_init_69 : decode cX7_init 69 = .ok (.putfield 50, 3) := by decide +kernel
theorem dX7_init_72 : decode cX7_init 72 = .ok (.iconst 0, 1) := by decide +kernel
theorem dX7_init_73 : decode cX7_init 73 = .ok (.istore_n 1, 1) := by decide +kernel
theorem dX7_init_74 : decode cX7_init 74 = .ok (.iload_n 1, 1) := by decide +kernel
theorem dX7_init_75 : decode cX7_init 75 = .ok (.iconst 4, 1) := by decide +kernel
theorem dX7_init_76 : decode cX7_init 76 = .ok (.if_icmp .ge 22, 3) := by decide +kernel
theorem dX7_init_79 : decode cX7_init 79 = .ok (.aload_n 0, 1) := by decide +kernel
theorem dX7_init_80 : decode cX7_init 80 = .ok (.getfield 46, 3) := by decide +kernel
theorem dX7_init_83 : decode cX7_init 83 = .ok (.iload_n 1, 1) := by decide +kernel
theorem dX7_init_84 : decode cX7_init 84 = .ok (.new 44, 3) := by decide +kernel
theorem dX7_init_87 : decode cX7_init 87 = .ok (.dup, 1) := by decide +kernel
theorem dX7_init_88 : decode cX7_init 88 = .ok (.invokespecial 54, 3) := by decide +kernel
theorem dX7_init_91 : decode cX7_init 91 = .ok (.aastore, 1) := by decide +kernel
theorem dX7_init_92 : decode cX7_init 92 = .ok (.iinc 1 1, 3) := by decide +kernel
theorem dX7_init_95 : decode cX7_init 95 = .ok (.goto (-21), 3) := by decide +kernel
theorem dX7_init_98 : decode cX7_init 98 = .ok (.return_, 1) := by decide +kernel
theorem dX7_end_0 : decode cX7_end 0 = .ok (.iload_n 1, 1) := by decide +kernel
theorem dX7_end_1 : decode cX7_end 1 = .ok (.iconst 1, 1) := by decide +kernel
theorem dX7_end_2 : decode cX7_end 2 = .ok (.sipush 250, 3) := by decide +kernel
theorem dX7_end_5 : decode cX7_end 5 = .ok (.invokestatic 55, 3) := by decide +kernel
theorem dX7_end_8 : decode cX7_end 8 = .ok (.ifCond .ne 10, 3) := by decide +kernel
theorem dX7_end_11 : decode cX7_end 11 = .ok (.aload_n 0, 1) := by decide +kernel
theorem dX7_end_12 : decode cX7_end 12 = .ok (.ldc 59, 2) := by decide +kernel
theorem dX7_end_14 : decode cX7_end 14 = .ok (.invokevirtual 60, 3) := by decide +kernel
theorem dX7_end_17 : decode cX7_end 17 = .ok (.ireturn, 1) := by decide +kernel
theorem dX7_end_18 : decode cX7_end 18 = .ok (.aload_n 0, 1) := by decide +kernel
theorem dX7_end_19 : decode cX7_end 19 = .ok (.aload_n 0, 1) := by decide +kernel
theorem dX7_end_20 : decode cX7_end 20 = .ok (.getfield 10, 3) := by decide +kernel
theorem dX7_end_23 : decode cX7_end 23 = .ok (.getfield 64, 3) := by decide +kernel
theorem dX7_end_26 : decode cX7_end 26 = .ok (.iconst 0, 1) := by decide +kernel
theorem dX7_end_27 : decode cX7_end 27 = .ok (.iload_n 1, 1) := by decide +kernel
theorem dX7_end_28 : decode cX7_end 28 = .ok (.invokevirtual 68, 3) := by decide +kernel
theorem dX7_end_31 : decode cX7_end 31 = .ok (.ireturn, 1) := by decide +kernel
theorem dX7_camp_0 : decode cX7_camp 0 = .ok (.iload_n 1, 1) := by decide +kernel
theorem dX7_camp_1 : decode cX7_camp 1 = .ok (.iconst 1, 1) := by decide +kernel
theorem dX7_camp_2 : decode cX7_camp 2 = .ok (.sipush 249, 3) := by decide +kernel
theorem dX7_camp_5 : decode cX7_camp 5 = .ok (.invokestatic 55, 3) := by decide +kernel
theorem dX7_camp_8 : decode cX7_camp 8 = .ok (.ifCond .ne 10, 3) := by decide +kernel
theorem dX7_camp_11 : decode cX7_camp 11 = .ok (.aload_n 0, 1) := by decide +kernel
theorem dX7_camp_12 : decode cX7_camp 12 = .ok (.ldc 59, 2) := by decide +kernel
theorem dX7_camp_14 : decode cX7_camp 14 = .ok (.invokevirtual 60, 3) := by decide +kernel
theorem dX7_camp_17 : decode cX7_camp 17 = .ok (.ireturn, 1) := by decide +kernel
theorem dX7_camp_18 : decode cX7_camp 18 = .ok (.aload_n 0, 1) := by decide +kernel
theorem dX7_camp_19 : decode cX7_camp 19 = .ok (.getfield 10, 3) := by decide +kernel
theorem dX7_camp_22 : decode cX7_camp 22 = .ok (.getfield 72, 3) := by decide +kernel
theorem dX7_camp_25 : decode cX7_camp 25 = .ok (.iconst 0, 1) := by decide +kernel
theorem dX7_camp_26 : decode cX7_camp 26 = .ok (.iaload, 1) := by decide +kernel
theorem dX7_camp_27 : decode cX7_camp 27 = .ok (.istore_n 3, 1) := by decide +kernel
theorem dX7_camp_28 : decode cX7_camp 28 = .ok (.iload_n 3, 1) := by decide +kernel
theorem dX7_camp_29 : decode cX7_camp 29 = .ok (.bipush 14, 2) := by decide +kernel
theorem dX7_camp_31 : decode cX7_camp 31 = .ok (.if_icmp .lt 10, 3) := by decide +kernel
theorem dX7_camp_34 : decode cX7_camp 34 = .ok (.aload_n 0, 1) := by decide +kernel
theorem dX7_camp_35 : decode cX7_camp 35 = .ok (.ldc 75, 2) := by decide +kernel
theorem dX7_camp_37 : decode cX7_camp 37 = .ok (.invokevirtual 60, 3) := by decide +kernel
theorem dX7_camp_40 : decode cX7_camp 40 = .ok (.ireturn, 1) := by decide +kernel
theorem dX7_camp_41 : decode cX7_camp 41 = .ok (.aload_n 0, 1) := by decide +kernel
theorem dX7_camp_42 : decode cX7_camp 42 = .ok (.getfield 10, 3) := by decide +kernel
theorem dX7_camp_45 : decode cX7_camp 45 = .ok (.getfield 76, 3) := by decide +kernel
theorem dX7_camp_48 : decode cX7_camp 48 = .ok (.iload_n 3, 1) := by decide +kernel
theorem dX7_camp_49 : decode cX7_camp 49 = .ok (.iload_n 1, 1) := by decide +kernel
theorem dX7_camp_50 : decode cX7_camp 50 = .ok (.iastore, 1) := by decide +kernel
theorem dX7_camp_51 : decode cX7_camp 51 = .ok (.aload_n 0, 1) := by decide +kernel
theorem dX7_camp_52 : decode cX7_camp 52 = .ok (.getfield 10, 3) := by decide +kernel
theorem dX7_camp_55 : decode cX7_camp 55 = .ok (.getfield 79, 3) := by decide +kernel
theorem dX7_camp_58 : decode cX7_camp 58 = .ok (.iload_n 3, 1) := by decide +kernel
theorem dX7_camp_59 : decode cX7_camp 59 = .ok (.iload_n 2, 1) := by decide +kernel
theorem dX7_camp_60 : decode cX7_camp 60 = .ok (.bastore, 1) := by decide +kernel
theorem dX7_camp_61 : decode cX7_camp 61 = .ok (.aload_n 0, 1) := by decide +kernel
theorem dX7_camp_62 : decode cX7_camp 62 = .ok (.aload_n 0, 1) := by decide +kernel
theorem dX7_camp_63 : decode cX7_camp 63 = .ok (.getfield 10, 3) := by decide +kernel
theorem dX7_camp_66 : decode cX7_camp 66 = .ok (.getfield 72, 3) := by decide +kernel
theorem dX7_camp_69 : decode cX7_camp 69 = .ok (.iconst 0, 1) := by decide +kernel
theorem dX7_camp_70 : decode cX7_camp 70 = .ok (.iload_n 3, 1) := by decide +kernel
theorem dX7_camp_71 : decode cX7_camp 71 = .ok (.iconst 1, 1) := by decide +kernel
theorem dX7_camp_72 : decode cX7_camp 72 = .ok (.iadd, 1) := by decide +kernel
theorem dX7_camp_73 : decode cX7_camp 73 = .ok (.invokevirtual 68, 3) := by decide +kernel
theorem dX7_camp_76 : decode cX7_camp 76 = .ok (.ireturn, 1) := by decide +kernel
theorem dX7_rapid_0 : decode cX7_rapid 0 = .ok (.iload_n 1, 1) := by decide +kernel
theorem dX7_rapid_1 : decode cX7_rapid 1 = .ok (.iconst 1, 1) := by decide +kernel
theorem dX7_rapid_2 : decode cX7_rapid 2 = .ok (.sipush 249, 3) := by decide +kernel
theorem dX7_rapid_5 : decode cX7_rapid 5 = .ok (.invokestatic 55, 3) := by decide +kernel
theorem dX7_rapid_8 : decode cX7_rapid 8 = .ok (.ifCond .eq 17, 3) := by decide +kernel
theorem dX7_rapid_11 : decode cX7_rapid 11 = .ok (.iload_n 2, 1) := by decide +kernel
theorem dX7_rapid_12 : decode cX7_rapid 12 = .ok (.invokestatic 83, 3) := by decide +kernel
theorem dX7_rapid_15 : decode cX7_rapid 15 = .ok (.ifCond .eq 10, 3) := by decide +kernel
theorem dX7_rapid_18 : decode cX7_rapid 18 = .ok (.iload_n 3, 1) := by decide +kernel
theorem dX7_rapid_19 : decode cX7_rapid 19 = .ok (.invokestatic 83, 3) := by decide +kernel
theorem dX7_rapid_22 : decode cX7_rapid 22 = .ok (.ifCond .ne 10, 3) := by decide +kernel
theorem dX7_rapid_25 : decode cX7_rapid 25 = .ok (.aload_n 0, 1) := by decide +kernel
theorem dX7_rapid_26 : decode cX7_rapid 26 = .ok (.ldc 59, 2) := by decide +kernel
theorem dX7_rapid_28 : decode cX7_rapid 28 = .ok (.invokevirtual 60, 3) := by decide +kernel
theorem dX7_rapid_31 : decode cX7_rapid 31 = .ok (.ireturn, 1) := by decide +kernel
theorem dX7_rapid_32 : decode cX7_rapid 32 = .ok (.iload_n 2, 1) := by decide +kernel
theorem dX7_rapid_33 : decode cX7_rapid 33 = .ok (.iload_n 3, 1) := by decide +kernel
theorem dX7_rapid_34 : decode cX7_rapid 34 = .ok (.if_icmp .le 10, 3) := by decide +kernel
theorem dX7_rapid_37 : decode cX7_rapid 37 = .ok (.aload_n 0, 1) := by decide +kernel
theorem dX7_rapid_38 : decode cX7_rapid 38 = .ok (.ldc 87, 2) := by decide +kernel
theorem dX7_rapid_40 : decode cX7_rapid 40 = .ok (.invokevirtual 60, 3) := by decide +kernel
theorem dX7_rapid_43 : decode cX7_rapid 43 = .ok (.ireturn, 1) := by decide +kernel
theorem dX7_rapid_44 : decode cX7_rapid 44 = .ok (.aload_n 0, 1) := by decide +kernel
theorem dX7_rapid_45 : decode cX7_rapid 45 = .ok (.getfield 10, 3) := by decide +kernel
theorem dX7_rapid_48 : decode cX7_rapid 48 = .ok (.getfield 72, 3) := by decide +kernel
theorem dX7_rapid_51 : decode cX7_rapid 51 = .ok (.iconst 1, 1) := by decide +kernel
theorem dX7_rapid_52 : decode cX7_rapid 52 = .ok (.iaload, 1) := by decide +kernel
theorem dX7_rapid_53 : decode cX7_rapid 53 = .ok (.istore 4, 2) := by decide +kernel
theorem dX7_rapid_55 : decode cX7_rapid 55 = .ok (.iload 4, 2) := by decide +kernel
theorem dX7_rapid_57 : decode cX7_rapid 57 = .ok (.bipush 10, 2) := by decide +kernel
theorem dX7_rapid_59 : decode cX7_rapid 59 = .ok (.if_icmp .lt 10, 3) := by decide +kernel
theorem dX7_rapid_62 : decode cX7_rapid 62 = .ok (.aload_n 0, 1) := by decide +kernel
theorem dX7_rapid_63 : decode cX7_rapid 63 = .ok (.ldc 75, 2) := by decide +kernel
theorem dX7_rapid_65 : decode cX7_rapid 65 = .ok (.invokevirtual 60, 3) := by decide +kernel
theorem dX7_rapid_68 : decode cX7_rapid 68 = .ok (.ireturn, 1) := by decide +kernel
theorem dX7_rapid_69 : decode cX7_rapid 69 = .ok (.aload_n 0, 1) := by decide +kernel
theorem dX7_rapid_70 : decode cX7_rapid 70 = .ok (.getfield 10, 3) := by decide +kernel
theorem dX7_rapid_73 : decode cX7_rapid 73 = .ok (.getfield 88, 3) := by decide +kernel
theorem dX7_rapid_76 : decode cX7_rapid 76 = .ok (.iload 4, 2) := by decide +kernel
theorem dX7_rapid_78 : decode cX7_rapid 78 = .ok (.iload_n 1, 1) := by decide +kernel
theorem dX7_rapid_79 : decode cX7_rapid 79 = .ok (.iastore, 1) := by decide +kernel
theorem dX7_rapid_80 : decode cX7_rapid 80 = .ok (.aload_n 0, 1) := by decide +kernel
theorem dX7_rapid_81 : decode cX7_rapid 81 = .ok (.getfield 10, 3) := by decide +kernel
theorem dX7_rapid_84 : decode cX7_rapid 84 = .ok (.getfield 91, 3) := by decide +kernel
theorem dX7_rapid_87 : decode cX7_rapid 87 = .ok (.iload 4, 2) := by decide +kernel
theorem dX7_rapid_89 : decode cX7_rapid 89 = .ok (.iload_n 2, 1) := by decide +kernel
theorem dX7_rapid_90 : decode cX7_rapid 90 = .ok (.iastore, 1) := by decide +kernel
theorem dX7_rapid_91 : decode cX7_rapid 91 = .ok (.aload_n 0, 1) := by decide +kernel
theorem dX7_rapid_92 : decode cX7_rapid 92 = .ok (.getfield 10, 3) := by decide +kernel
theorem dX7_rapid_95 : decode cX7_rapid 95 = .ok (.getfield 94, 3) := by decide +kernel
theorem dX7_rapid_98 : decode cX7_rapid 98 = .ok (.iload 4, 2) := by decide +kernel
theorem dX7_rapid_100 : decode cX7_rapid 100 = .ok (.iload_n 3, 1) := by decide +kernel
theorem dX7_rapid_101 : decode cX7_rapid 101 = .ok (.iastore, 1) := by decide +kernel
theorem dX7_rapid_102 : decode cX7_rapid 102 = .ok (.aload_n 0, 1) := by decide +kernel
theorem dX7_rapid_103 : decode cX7_rapid 103 = .ok (.aload_n 0, 1) := by decide +kernel
theorem dX7_rapid_104 : decode cX7_rapid 104 = .ok (.getfield 10, 3) := by decide +kernel
theorem dX7_rapid_107 : decode cX7_rapid 107 = .ok (.getfield 72, 3) := by decide +kernel
theorem dX7_rapid_110 : decode cX7_rapid 110 = .ok (.iconst 1, 1) := by decide +kernel
theorem dX7_rapid_111 : decode cX7_rapid 111 = .ok (.iload 4, 2) := by decide +kernel
theorem dX7_rapid_113 : decode cX7_rapid 113 = .ok (.iconst 1, 1) := by decide +kernel
theorem dX7_rapid_114 : decode cX7_rapid 114 = .ok (.iadd, 1) := by decide +kernel
theorem dX7_rapid_115 : decode cX7_rapid 115 = .ok (.invokevirtual 68, 3) := by decide +kernel
theorem dX7_rapid_118 : decode cX7_rapid 118 = .ok (.ireturn, 1) := by decide +kernel
theorem dX7_landing_0 : decode cX7_landing 0 = .ok (.iload_n 1, 1) := by decide +kernel
theorem dX7_landing_1 : decode cX7_landing 1 = .ok (.invokestatic 97, 3) := by decide +kernel
theorem dX7_landing_4 : decode cX7_landing 4 = .ok (.ifCond .ne 10, 3) := by decide +kernel
theorem dX7_landing_7 : decode cX7_landing 7 = .ok (.aload_n 0, 1) := by decide +kernel
theorem dX7_landing_8 : decode cX7_landing 8 = .ok (.ldc 59, 2) := by decide +kernel
theorem dX7_landing_10 : decode cX7_landing 10 = .ok (.invokevirtual 60, 3) := by decide +kernel
theorem dX7_landing_13 : decode cX7_landing 13 = .ok (.ireturn, 1) := by decide +kernel
theorem dX7_landing_14 : decode cX7_landing 14 = .ok (.aload_n 0, 1) := by decide +kernel
theorem dX7_landing_15 : decode cX7_landing 15 = .ok (.getfield 10, 3) := by decide +kernel
theorem dX7_landing_18 : decode cX7_landing 18 = .ok (.getfield 72, 3) := by decide +kernel
theorem dX7_landing_21 : decode cX7_landing 21 = .ok (.iconst 2, 1) := by decide +kernel
theorem dX7_landing_22 : decode cX7_landing 22 = .ok (.iaload, 1) := by decide +kernel
theorem dX7_landing_23 : decode cX7_landing 23 = .ok (.istore_n 2, 1) := by decide +kernel
theorem dX7_landing_24 : decode cX7_landing 24 = .ok (.iload_n 2, 1) := by decide +kernel
theorem dX7_landing_25 : decode cX7_landing 25 = .ok (.bipush 8, 2) := by decide +kernel
theorem dX7_landing_27 : decode cX7_landing 27 = .ok (.if_icmp .lt 10, 3) := by decide +kernel
theorem dX7_landing_30 : decode cX7_landing 30 = .ok (.aload_n 0, 1) := by decide +kernel
theorem dX7_landing_31 : decode cX7_landing 31 = .ok (.ldc 75, 2) := by decide +kernel
theorem dX7_landing_33 : decode cX7_landing 33 = .ok (.invokevirtual 60, 3) := by decide +kernel
theorem dX7_landing_36 : decode cX7_landing 36 = .ok (.ireturn, 1) := by decide +kernel
theorem dX7_landing_37 : decode cX7_landing 37 = .ok (.aload_n 0, 1) := by decide +kernel
theorem dX7_landing_38 : decode cX7_landing 38 = .ok (.getfield 10, 3) := by decide +kernel
theorem dX7_landing_41 : decode cX7_landing 41 = .ok (.getfield 100, 3) := by decide +kernel
theorem dX7_landing_44 : decode cX7_landing 44 = .ok (.iload_n 2, 1) := by decide +kernel
theorem dX7_landing_45 : decode cX7_landing 45 = .ok (.iload_n 1, 1) := by decide +kernel
theorem dX7_landing_46 : decode cX7_landing 46 = .ok (.iastore, 1) := by decide +kernel
theorem dX7_landing_47 : decode cX7_landing 47 = .ok (.aload_n 0, 1) := by decide +kernel
theorem dX7_landing_48 : decode cX7_landing 48 = .ok (.aload_n 0, 1) := by decide +kernel
theorem dX7_landing_49 : decode cX7_landing 49 = .ok (.getfield 10, 3) := by decide +kernel
theorem dX7_landing_52 : decode cX7_landing 52 = .ok (.getfield 72, 3) := by decide +kernel
theorem dX7_landing_55 : decode cX7_landing 55 = .ok (.iconst 2, 1) := by decide +kernel
theorem dX7_landing_56 : decode cX7_landing 56 = .ok (.iload_n 2, 1) := by decide +kernel
theorem dX7_landing_57 : decode cX7_landing 57 = .ok (.iconst 1, 1) := by decide +kernel
theorem dX7_landing_58 : decode cX7_landing 58 = .ok (.iadd, 1) := by decide +kernel
theorem dX7_landing_59 : decode cX7_landing 59 = .ok (.invokevirtual 68, 3) := by decide +kernel
theorem dX7_landing_62 : decode cX7_landing 62 = .ok (.iconst 1, 1) := by decide +kernel
theorem dX7_landing_63 : decode cX7_landing 63 = .ok (.iadd, 1) := by decide +kernel
theorem dX7_landing_64 : decode cX7_landing 64 = .ok (.ireturn, 1) := by decide +kernel
theorem dX7_speed_0 : decode cX7_speed 0 = .ok (.iload_n 1, 1) := by decide +kernel
theorem dX7_speed_1 : decode cX7_speed 1 = .ok (.iconst 1, 1) := by decide +kernel
theorem dX7_speed_2 : decode cX7_speed 2 = .ok (.bipush 9, 2) := by decide +kernel
theorem dX7_speed_4 : decode cX7_speed 4 = .ok (.invokestatic 55, 3) := by decide +kernel
theorem dX7_speed_7 : decode cX7_speed 7 = .ok (.ifCond .ne 10, 3) := by decide +kernel
theorem dX7_speed_10 : decode cX7_speed 10 = .ok (.aload_n 0, 1) := by decide +kernel
theorem dX7_speed_11 : decode cX7_speed 11 = .ok (.ldc 59, 2) := by decide +kernel
theorem dX7_speed_13 : decode cX7_speed 13 = .ok (.invokevirtual 60, 3) := by decide +kernel
theorem dX7_speed_16 : decode cX7_speed 16 = .ok (.ireturn, 1) := by decide +kernel
theorem dX7_speed_17 : decode cX7_speed 17 = .ok (.aload_n 0, 1) := by decide +kernel
theorem dX7_speed_18 : decode cX7_speed 18 = .ok (.aload_n 0, 1) := by decide +kernel
theorem dX7_speed_19 : decode cX7_speed 19 = .ok (.getfield 10, 3) := by decide +kernel
theorem dX7_speed_22 : decode cX7_speed 22 = .ok (.getfield 64, 3) := by decide +kernel
theorem dX7_speed_25 : decode cX7_speed 25 = .ok (.iconst 1, 1) := by decide +kernel
theorem dX7_speed_26 : decode cX7_speed 26 = .ok (.iload_n 1, 1) := by decide +kernel
theorem dX7_speed_27 : decode cX7_speed 27 = .ok (.invokevirtual 68, 3) := by decide +kernel
theorem dX7_speed_30 : decode cX7_speed 30 = .ok (.ireturn, 1) := by decide +kernel
theorem dX7_water_0 : decode cX7_water 0 = .ok (.iload_n 1, 1) := by decide +kernel
theorem dX7_water_1 : decode cX7_water 1 = .ok (.invokestatic 103, 3) := by decide +kernel
theorem dX7_water_4 : decode cX7_water 4 = .ok (.ifCond .eq 19, 3) := by decide +kernel
theorem dX7_water_7 : decode cX7_water 7 = .ok (.iload_n 2, 1) := by decide +kernel
theorem dX7_water_8 : decode cX7_water 8 = .ok (.iconst 0, 1) := by decide +kernel
theorem dX7_water_9 : decode cX7_water 9 = .ok (.iconst 3, 1) := by decide +kernel
theorem dX7_water_10 : decode cX7_water 10 = .ok (.invokestatic 55, 3) := by decide +kernel
theorem dX7_water_13 : decode cX7_water 13 = .ok (.ifCond .eq 10, 3) := by decide +kernel
theorem dX7_water_16 : decode cX7_water 16 = .ok (.iload_n 3, 1) := by decide +kernel
theorem dX7_water_17 : decode cX7_water 17 = .ok (.invokestatic 83, 3) := by decide +kernel
theorem dX7_water_20 : decode cX7_water 20 = .ok (.ifCond .ne 10, 3) := by decide +kernel
theorem dX7_water_23 : decode cX7_water 23 = .ok (.aload_n 0, 1) := by decide +kernel
theorem dX7_water_24 : decode cX7_water 24 = .ok (.ldc 59, 2) := by decide +kernel
theorem dX7_water_26 : decode cX7_water 26 = .ok (.invokevirtual 60, 3) := by decide +kernel
theorem dX7_water_29 : decode cX7_water 29 = .ok (.ireturn, 1) := by decide +kernel
theorem dX7_water_30 : decode cX7_water 30 = .ok (.aload_n 0, 1) := by decide +kernel
theorem dX7_water_31 : decode cX7_water 31 = .ok (.aload_n 0, 1) := by decide +kernel
theorem dX7_water_32 : decode cX7_water 32 = .ok (.getfield 10, 3) := by decide +kernel
theorem dX7_water_35 : decode cX7_water 35 = .ok (.getfield 106, 3) := by decide +kernel
theorem dX7_water_38 : decode cX7_water 38 = .ok (.iload_n 1, 1) := by decide +kernel
theorem dX7_water_39 : decode cX7_water 39 = .ok (.iconst 4, 1) := by decide +kernel
theorem dX7_water_40 : decode cX7_water 40 = .ok (.imul, 1) := by decide +kernel
theorem dX7_water_41 : decode cX7_water 41 = .ok (.iload_n 2, 1) := by decide +kernel
theorem dX7_water_42 : decode cX7_water 42 = .ok (.iadd, 1) := by decide +kernel
theorem dX7_water_43 : decode cX7_water 43 = .ok (.iload_n 3, 1) := by decide +kernel
theorem dX7_water_44 : decode cX7_water 44 = .ok (.invokevirtual 68, 3) := by decide +kernel
theorem dX7_water_47 : decode cX7_water 47 = .ok (.ireturn, 1) := by decide +kernel
theorem dX7_waterAt_0 : decode cX7_waterAt 0 = .ok (.iload_n 1, 1) := by decide +kernel
theorem dX7_waterAt_1 : decode cX7_waterAt 1 = .ok (.invokestatic 97, 3) := by decide +kernel
theorem dX7_waterAt_4 : decode cX7_waterAt 4 = .ok (.ifCond .eq 20, 3) := by decide +kernel
theorem dX7_waterAt_7 : decode cX7_waterAt 7 = .ok (.iload_n 2, 1) := by decide +kernel
theorem dX7_waterAt_8 : decode cX7_waterAt 8 = .ok (.invokestatic 103, 3) := by decide +kernel
theorem dX7_waterAt_11 : decode cX7_waterAt 11 = .ok (.ifCond .eq 13, 3) := by decide +kernel
theorem dX7_waterAt_14 : decode cX7_waterAt 14 = .ok (.iload_n 3, 1) := by decide +kernel
theorem dX7_waterAt_15 : decode cX7_waterAt 15 = .ok (.iconst 0, 1) := by decide +kernel
theorem dX7_waterAt_16 : decode cX7_waterAt 16 = .ok (.bipush 23, 2) := by decide +kernel
theorem dX7_waterAt_18 : decode cX7_waterAt 18 = .ok (.invokestatic 55, 3) := by decide +kernel
theorem dX7_waterAt_21 : decode cX7_waterAt 21 = .ok (.ifCond .ne 10, 3) := by decide +kernel
theorem dX7_waterAt_24 : decode cX7_waterAt 24 = .ok (.aload_n 0, 1) := by decide +kernel
theorem dX7_waterAt_25 : decode cX7_waterAt 25 = .ok (.ldc 59, 2) := by decide +kernel
theorem dX7_waterAt_27 : decode cX7_waterAt 27 = .ok (.invokevirtual 60, 3) := by decide +kernel
theorem dX7_waterAt_30 : decode cX7_waterAt 30 = .ok (.ireturn, 1) := by decide +kernel
theorem dX7_waterAt_31 : decode cX7_waterAt 31 = .ok (.aload_n 0, 1) := by decide +kernel
theorem dX7_waterAt_32 : decode cX7_waterAt 32 = .ok (.getfield 10, 3) := by decide +kernel
theorem dX7_waterAt_35 : decode cX7_waterAt 35 = .ok (.iload_n 1, 1) := by decide +kernel
theorem dX7_waterAt_36 : decode cX7_waterAt 36 = .ok (.iload_n 2, 1) := by decide +kernel
theorem dX7_waterAt_37 : decode cX7_waterAt 37 = .ok (.iload_n 3, 1) := by decide +kernel
theorem dX7_waterAt_38 : decode cX7_waterAt 38 = .ok (.invokevirtual 109, 3) := by decide +kernel
theorem dX7_waterAt_41 : decode cX7_waterAt 41 = .ok (.ireturn, 1) := by decide +kernel
theorem dX7_runs_0 : decode cX7_runs 0 = .ok (.iload_n 1, 1) := by decide +kernel
theorem dX7_runs_1 : decode cX7_runs 1 = .ok (.iconst 0, 1) := by decide +kernel
theorem dX7_runs_2 : decode cX7_runs 2 = .ok (.aload_n 0, 1) := by decide +kernel
theorem dX7_runs_3 : decode cX7_runs 3 = .ok (.getfield 10, 3) := by decide +kernel
theorem dX7_runs_6 : decode cX7_runs 6 = .ok (.getfield 72, 3) := by decide +kernel
theorem dX7_runs_9 : decode cX7_runs 9 = .ok (.iconst 1, 1) := by decide +kernel
theorem dX7_runs_10 : decode cX7_runs 10 = .ok (.iaload, 1) := by decide +kernel
theorem dX7_runs_11 : decode cX7_runs 11 = .ok (.iconst 1, 1) := by decide +kernel
theorem dX7_runs_12 : decode cX7_runs 12 = .ok (.isub, 1) := by decide +kernel
theorem dX7_runs_13 : decode cX7_runs 13 = .ok (.invokestatic 55, 3) := by decide +kernel
theorem dX7_runs_16 : decode cX7_runs 16 = .ok (.ifCond .eq 17, 3) := by decide +kernel
theorem dX7_runs_19 : decode cX7_runs 19 = .ok (.iload_n 2, 1) := by decide +kernel
theorem dX7_runs_20 : decode cX7_runs 20 = .ok (.invokestatic 103, 3) := by decide +kernel
theorem dX7_runs_23 : decode cX7_runs 23 = .ok (.ifCond .eq 10, 3) := by decide +kernel
theorem dX7_runs_26 : decode cX7_runs 26 = .ok (.iload_n 3, 1) := by decide +kernel
theorem dX7_runs_27 : decode cX7_runs 27 = .ok (.invokestatic 113, 3) := by decide +kernel
theorem dX7_runs_30 : decode cX7_runs 30 = .ok (.ifCond .ne 10, 3) := by decide +kernel
theorem dX7_runs_33 : decode cX7_runs 33 = .ok (.aload_n 0, 1) := by decide +kernel
theorem dX7_runs_34 : decode cX7_runs 34 = .ok (.ldc 59, 2) := by decide +kernel
theorem dX7_runs_36 : decode cX7_runs 36 = .ok (.invokevirtual 60, 3) := by decide +kernel
theorem dX7_runs_39 : decode cX7_runs 39 = .ok (.ireturn, 1) := by decide +kernel
theorem dX7_runs_40 : decode cX7_runs 40 = .ok (.aload_n 0, 1) := by decide +kernel
theorem dX7_runs_41 : decode cX7_runs 41 = .ok (.getfield 10, 3) := by decide +kernel
theorem dX7_runs_44 : decode cX7_runs 44 = .ok (.iload_n 1, 1) := by decide +kernel
theorem dX7_runs_45 : decode cX7_runs 45 = .ok (.iload_n 2, 1) := by decide +kernel
theorem dX7_runs_46 : decode cX7_runs 46 = .ok (.iload_n 3, 1) := by decide +kernel
theorem dX7_runs_47 : decode cX7_runs 47 = .ok (.invokevirtual 116, 3) := by decide +kernel
theorem dX7_runs_50 : decode cX7_runs 50 = .ok (.ireturn, 1) := by decide +kernel
theorem dX7_trip_0 : decode cX7_trip 0 = .ok (.iload_n 1, 1) := by decide +kernel
theorem dX7_trip_1 : decode cX7_trip 1 = .ok (.invokestatic 113, 3) := by decide +kernel
theorem dX7_trip_4 : decode cX7_trip 4 = .ok (.ifCond .eq 41, 3) := by decide +kernel
theorem dX7_trip_7 : decode cX7_trip 7 = .ok (.iload_n 2, 1) := by decide +kernel
theorem dX7_trip_8 : decode cX7_trip 8 = .ok (.invokestatic 103, 3) := by decide +kernel
theorem dX7_trip_11 : decode cX7_trip 11 = .ok (.ifCond .eq 34, 3) := by decide +kernel
theorem dX7_trip_14 : decode cX7_trip 14 = .ok (.iload_n 3, 1) := by decide +kernel
theorem dX7_trip_15 : decode cX7_trip 15 = .ok (.iconst 1, 1) := by decide +kernel
theorem dX7_trip_16 : decode cX7_trip 16 = .ok (.bipush 60, 2) := by decide +kernel
theorem dX7_trip_18 : decode cX7_trip 18 = .ok (.invokestatic 55, 3) := by decide +kernel
theorem dX7_trip_21 : decode cX7_trip 21 = .ok (.ifCond .eq 24, 3) := by decide +kernel
theorem dX7_trip_24 : decode cX7_trip 24 = .ok (.iload 4, 2) := by decide +kernel
theorem dX7_trip_26 : decode cX7_trip 26 = .ok (.iconst 1, 1) := by decide +kernel
theorem dX7_trip_27 : decode cX7_trip 27 = .ok (.bipush 15, 2) := by decide +kernel
theorem dX7_trip_29 : decode cX7_trip 29 = .ok (.invokestatic 55, 3) := by decide +kernel
theorem dX7_trip_32 : decode cX7_trip 32 = .ok (.ifCond .eq 13, 3) := by decide +kernel
theorem dX7_trip_35 : decode cX7_trip 35 = .ok (.iload 5, 2) := by decide +kernel
theorem dX7_trip_37 : decode cX7_trip 37 = .ok (.iconst 0, 1) := by decide +kernel
theorem dX7_trip_38 : decode cX7_trip 38 = .ok (.iconst 2, 1) := by decide +kernel
theorem dX7_trip_39 : decode cX7_trip 39 = .ok (.invokestatic 55, 3) := by decide +kernel
theorem dX7_trip_42 : decode cX7_trip 42 = .ok (.ifCond .ne 10, 3) := by decide +kernel
theorem dX7_trip_45 : decode cX7_trip 45 = .ok (.aload_n 0, 1) := by decide +kernel
theorem dX7_trip_46 : decode cX7_trip 46 = .ok (.ldc 59, 2) := by decide +kernel
theorem dX7_trip_48 : decode cX7_trip 48 = .ok (.invokevirtual 60, 3) := by decide +kernel
theorem dX7_trip_51 : decode cX7_trip 51 = .ok (.ireturn, 1) := by decide +kernel
theorem dX7_trip_52 : decode cX7_trip 52 = .ok (.aload_n 0, 1) := by decide +kernel
theorem dX7_trip_53 : decode cX7_trip 53 = .ok (.getfield 19, 3) := by decide +kernel
theorem dX7_trip_56 : decode cX7_trip 56 = .ok (.invokevirtual 119, 3) := by decide +kernel
theorem dX7_trip_59 : decode cX7_trip 59 = .ok (.istore 6, 2) := by decide +kernel
theorem dX7_trip_61 : decode cX7_trip 61 = .ok (.iload 6, 2) := by decide +kernel
theorem dX7_trip_63 : decode cX7_trip 63 = .ok (.bipush 10, 2) := by decide +kernel
theorem dX7_trip_65 : decode cX7_trip 65 = .ok (.if_icmp .lt 10, 3) := by decide +kernel
theorem dX7_trip_68 : decode cX7_trip 68 = .ok (.aload_n 0, 1) := by decide +kernel
theorem dX7_trip_69 : decode cX7_trip 69 = .ok (.ldc 75, 2) := by decide +kernel
theorem dX7_trip_71 : decode cX7_trip 71 = .ok (.invokevirtual 60, 3) := by decide +kernel
