theorem dL_law_1250 : decode cL_law 1250 = .ok (.iload_n 3, 1) := by decide +kernel
theorem dL_law_1251 : decode cL_law 1251 = .ok (.iconst 5, 1) := by decide +kernel
theorem dL_law_1252 : decode cL_law 1252 = .ok (.iadd, 1) := by decide +kernel
theorem dL_law_1253 : decode cL_law 1253 = .ok (.iaload, 1) := by decide +kernel
theorem dL_law_1254 : decode cL_law 1254 = .ok (.invokevirtual 137, 3) := by decide +kernel
theorem dL_law_1257 : decode cL_law 1257 = .ok (.if_icmp .eq 74, 3) := by decide +kernel
theorem dL_law_1260 : decode cL_law 1260 = .ok (.iconst 0, 1) := by decide +kernel
theorem dL_law_1261 : decode cL_law 1261 = .ok (.ireturn, 1) := by decide +kernel
theorem dL_law_1262 : decode cL_law 1262 = .ok (.aload_n 1, 1) := by decide +kernel
theorem dL_law_1263 : decode cL_law 1263 = .ok (.aload_n 0, 1) := by decide +kernel
theorem dL_law_1264 : decode cL_law 1264 = .ok (.iload_n 3, 1) := by decide +kernel
theorem dL_law_1265 : decode cL_law 1265 = .ok (.iconst 1, 1) := by decide +kernel
theorem dL_law_1266 : decode cL_law 1266 = .ok (.iadd, 1) := by decide +kernel
theorem dL_law_1267 : decode cL_law 1267 = .ok (.iaload, 1) := by decide +kernel
theorem dL_law_1268 : decode cL_law 1268 = .ok (.aload_n 0, 1) := by decide +kernel
theorem dL_law_1269 : decode cL_law 1269 = .ok (.iload_n 3, 1) := by decide +kernel
theorem dL_law_1270 : decode cL_law 1270 = .ok (.iconst 2, 1) := by decide +kernel
theorem dL_law_1271 : decode cL_law 1271 = .ok (.iadd, 1) := by decide +kernel
theorem dL_law_1272 : decode cL_law 1272 = .ok (.iaload, 1) := by decide +kernel
theorem dL_law_1273 : decode cL_law 1273 = .ok (.invokevirtual 138, 3) := by decide +kernel
theorem dL_law_1276 : decode cL_law 1276 = .ok (.aload_n 2, 1) := by decide +kernel
theorem dL_law_1277 : decode cL_law 1277 = .ok (.aload_n 0, 1) := by decide +kernel
theorem dL_law_1278 : decode cL_law 1278 = .ok (.iload_n 3, 1) := by decide +kernel
theorem dL_law_1279 : decode cL_law 1279 = .ok (.iconst 1, 1) := by decide +kernel
theorem dL_law_1280 : decode cL_law 1280 = .ok (.iadd, 1) := by decide +kernel
theorem dL_law_1281 : decode cL_law 1281 = .ok (.iaload, 1) := by decide +kernel
theorem dL_law_1282 : decode cL_law 1282 = .ok (.aload_n 0, 1) := by decide +kernel
theorem dL_law_1283 : decode cL_law 1283 = .ok (.iload_n 3, 1) := by decide +kernel
theorem dL_law_1284 : decode cL_law 1284 = .ok (.iconst 2, 1) := by decide +kernel
theorem dL_law_1285 : decode cL_law 1285 = .ok (.iadd, 1) := by decide +kernel
theorem dL_law_1286 : decode cL_law 1286 = .ok (.iaload, 1) := by decide +kernel
theorem dL_law_1287 : decode cL_law 1287 = .ok (.invokevirtual 141, 3) := by decide +kernel
theorem dL_law_1290 : decode cL_law 1290 = .ok (.if_icmp .eq 41, 3) := by decide +kernel
theorem dL_law_1293 : decode cL_law 1293 = .ok (.iconst 0, 1) := by decide +kernel
theorem dL_law_1294 : decode cL_law 1294 = .ok (.ireturn, 1) := by decide +kernel
theorem dL_law_1295 : decode cL_law 1295 = .ok (.aload_n 1, 1) := by decide +kernel
theorem dL_law_1296 : decode cL_law 1296 = .ok (.invokevirtual 142, 3) := by decide +kernel
theorem dL_law_1299 : decode cL_law 1299 = .ok (.aload_n 2, 1) := by decide +kernel
theorem dL_law_1300 : decode cL_law 1300 = .ok (.invokevirtual 146, 3) := by decide +kernel
theorem dL_law_1303 : decode cL_law 1303 = .ok (.if_icmp .eq 28, 3) := by decide +kernel
theorem dL_law_1306 : decode cL_law 1306 = .ok (.iconst 0, 1) := by decide +kernel
theorem dL_law_1307 : decode cL_law 1307 = .ok (.ireturn, 1) := by decide +kernel
theorem dL_law_1308 : decode cL_law 1308 = .ok (.aload_n 1, 1) := by decide +kernel
theorem dL_law_1309 : decode cL_law 1309 = .ok (.aload_n 0, 1) := by decide +kernel
theorem dL_law_1310 : decode cL_law 1310 = .ok (.iload_n 3, 1) := by decide +kernel
theorem dL_law_1311 : decode cL_law 1311 = .ok (.iconst 1, 1) := by decide +kernel
theorem dL_law_1312 : decode cL_law 1312 = .ok (.iadd, 1) := by decide +kernel
theorem dL_law_1313 : decode cL_law 1313 = .ok (.iaload, 1) := by decide +kernel
theorem dL_law_1314 : decode cL_law 1314 = .ok (.invokevirtual 147, 3) := by decide +kernel
theorem dL_law_1317 : decode cL_law 1317 = .ok (.aload_n 2, 1) := by decide +kernel
theorem dL_law_1318 : decode cL_law 1318 = .ok (.aload_n 0, 1) := by decide +kernel
theorem dL_law_1319 : decode cL_law 1319 = .ok (.iload_n 3, 1) := by decide +kernel
theorem dL_law_1320 : decode cL_law 1320 = .ok (.iconst 1, 1) := by decide +kernel
theorem dL_law_1321 : decode cL_law 1321 = .ok (.iadd, 1) := by decide +kernel
theorem dL_law_1322 : decode cL_law 1322 = .ok (.iaload, 1) := by decide +kernel
theorem dL_law_1323 : decode cL_law 1323 = .ok (.invokevirtual 150, 3) := by decide +kernel
theorem dL_law_1326 : decode cL_law 1326 = .ok (.if_icmp .eq 5, 3) := by decide +kernel
theorem dL_law_1329 : decode cL_law 1329 = .ok (.iconst 0, 1) := by decide +kernel
theorem dL_law_1330 : decode cL_law 1330 = .ok (.ireturn, 1) := by decide +kernel
theorem dL_law_1331 : decode cL_law 1331 = .ok (.iinc 3 6, 3) := by decide +kernel
theorem dL_law_1334 : decode cL_law 1334 = .ok (.goto (-1316), 3) := by decide +kernel
theorem dL_law_1337 : decode cL_law 1337 = .ok (.iconst 1, 1) := by decide +kernel
theorem dL_law_1338 : decode cL_law 1338 = .ok (.ireturn, 1) := by decide +kernel
theorem dX0_init_0 : decode cX0_init 0 = .ok (.aload_n 0, 1) := by decide +kernel
theorem dX0_init_1 : decode cX0_init 1 = .ok (.invokespecial 1, 3) := by decide +kernel
theorem dX0_init_4 : decode cX0_init 4 = .ok (.aload_n 0, 1) := by decide +kernel
theorem dX0_init_5 : decode cX0_init 5 = .ok (.iconst 1, 1) := by decide +kernel
theorem dX0_init_6 : decode cX0_init 6 = .ok (.newarray .int, 2) := by decide +kernel
theorem dX0_init_8 : decode cX0_init 8 = .ok (.putfield 7, 3) := by decide +kernel
theorem dX0_init_11 : decode cX0_init 11 = .ok (.aload_n 0, 1) := by decide +kernel
theorem dX0_init_12 : decode cX0_init 12 = .ok (.bipush 12, 2) := by decide +kernel
theorem dX0_init_14 : decode cX0_init 14 = .ok (.newarray .int, 2) := by decide +kernel
theorem dX0_init_16 : decode cX0_init 16 = .ok (.putfield 13, 3) := by decide +kernel
theorem dX0_init_19 : decode cX0_init 19 = .ok (.aload_n 0, 1) := by decide +kernel
theorem dX0_init_20 : decode cX0_init 20 = .ok (.bipush 12, 2) := by decide +kernel
theorem dX0_init_22 : decode cX0_init 22 = .ok (.newarray .int, 2) := by decide +kernel
theorem dX0_init_24 : decode cX0_init 24 = .ok (.putfield 16, 3) := by decide +kernel
theorem dX0_init_27 : decode cX0_init 27 = .ok (.return_, 1) := by decide +kernel
theorem dX0_size_0 : decode cX0_size 0 = .ok (.aload_n 0, 1) := by decide +kernel
theorem dX0_size_1 : decode cX0_size 1 = .ok (.getfield 7, 3) := by decide +kernel
theorem dX0_size_4 : decode cX0_size 4 = .ok (.iconst 0, 1) := by decide +kernel
theorem dX0_size_5 : decode cX0_size 5 = .ok (.iaload, 1) := by decide +kernel
theorem dX0_size_6 : decode cX0_size 6 = .ok (.ireturn, 1) := by decide +kernel
theorem dX0_everybody_0 : decode cX0_everybody 0 = .ok (.iconst 1, 1) := by decide +kernel
theorem dX0_everybody_1 : decode cX0_everybody 1 = .ok (.aload_n 0, 1) := by decide +kernel
theorem dX0_everybody_2 : decode cX0_everybody 2 = .ok (.invokevirtual 19, 3) := by decide +kernel
theorem dX0_everybody_5 : decode cX0_everybody 5 = .ok (.ishl, 1) := by decide +kernel
theorem dX0_everybody_6 : decode cX0_everybody 6 = .ok (.iconst 1, 1) := by decide +kernel
theorem dX0_everybody_7 : decode cX0_everybody 7 = .ok (.isub, 1) := by decide +kernel
theorem dX0_everybody_8 : decode cX0_everybody 8 = .ok (.ireturn, 1) := by decide +kernel
theorem dX0_together_0 : decode cX0_together 0 = .ok (.iconst 0, 1) := by decide +kernel
theorem dX0_together_1 : decode cX0_together 1 = .ok (.istore_n 2, 1) := by decide +kernel
theorem dX0_together_2 : decode cX0_together 2 = .ok (.iconst 0, 1) := by decide +kernel
theorem dX0_together_3 : decode cX0_together 3 = .ok (.istore_n 3, 1) := by decide +kernel
theorem dX0_together_4 : decode cX0_together 4 = .ok (.iload_n 3, 1) := by decide +kernel
theorem dX0_together_5 : decode cX0_together 5 = .ok (.aload_n 0, 1) := by decide +kernel
theorem dX0_together_6 : decode cX0_together 6 = .ok (.invokevirtual 19, 3) := by decide +kernel
theorem dX0_together_9 : decode cX0_together 9 = .ok (.if_icmp .ge 26, 3) := by decide +kernel
theorem dX0_together_12 : decode cX0_together 12 = .ok (.iload_n 1, 1) := by decide +kernel
theorem dX0_together_13 : decode cX0_together 13 = .ok (.iload_n 3, 1) := by decide +kernel
theorem dX0_together_14 : decode cX0_together 14 = .ok (.invokestatic 23, 3) := by decide +kernel
theorem dX0_together_17 : decode cX0_together 17 = .ok (.ifCond .eq 12, 3) := by decide +kernel
theorem dX0_together_20 : decode cX0_together 20 = .ok (.iload_n 2, 1) := by decide +kernel
theorem dX0_together_21 : decode cX0_together 21 = .ok (.aload_n 0, 1) := by decide +kernel
theorem dX0_together_22 : decode cX0_together 22 = .ok (.getfield 13, 3) := by decide +kernel
theorem dX0_together_25 : decode cX0_together 25 = .ok (.iload_n 3, 1) := by decide +kernel
theorem dX0_together_26 : decode cX0_together 26 = .ok (.iaload, 1) := by decide +kernel
theorem dX0_together_27 : decode cX0_together 27 = .ok (.iadd, 1) := by decide +kernel
theorem dX0_together_28 : decode cX0_together 28 = .ok (.istore_n 2, 1) := by decide +kernel
theorem dX0_together_29 : decode cX0_together 29 = .ok (.iinc 3 1, 3) := by decide +kernel
theorem dX0_together_32 : decode cX0_together 32 = .ok (.goto (-28), 3) := by decide +kernel
theorem dX0_together_35 : decode cX0_together 35 = .ok (.iload_n 2, 1) := by decide +kernel
theorem dX0_together_36 : decode cX0_together 36 = .ok (.ireturn, 1) := by decide +kernel
theorem dX0_draw_0 : decode cX0_draw 0 = .ok (.iload_n 1, 1) := by decide +kernel
theorem dX0_draw_1 : decode cX0_draw 1 = .ok (.istore_n 2, 1) := by decide +kernel
theorem dX0_draw_2 : decode cX0_draw 2 = .ok (.aload_n 0, 1) := by decide +kernel
theorem dX0_draw_3 : decode cX0_draw 3 = .ok (.invokevirtual 29, 3) := by decide +kernel
theorem dX0_draw_6 : decode cX0_draw 6 = .ok (.istore_n 3, 1) := by decide +kernel
theorem dX0_draw_7 : decode cX0_draw 7 = .ok (.iconst 0, 1) := by decide +kernel
theorem dX0_draw_8 : decode cX0_draw 8 = .ok (.istore 4, 2) := by decide +kernel
theorem dX0_draw_10 : decode cX0_draw 10 = .ok (.iload 4, 2) := by decide +kernel
theorem dX0_draw_12 : decode cX0_draw 12 = .ok (.aload_n 0, 1) := by decide +kernel
theorem dX0_draw_13 : decode cX0_draw 13 = .ok (.invokevirtual 19, 3) := by decide +kernel
theorem dX0_draw_16 : decode cX0_draw 16 = .ok (.if_icmp .ge 61, 3) := by decide +kernel
theorem dX0_draw_19 : decode cX0_draw 19 = .ok (.ldc 32, 2) := by decide +kernel
theorem dX0_draw_21 : decode cX0_draw 21 = .ok (.iload_n 2, 1) := by decide +kernel
theorem dX0_draw_22 : decode cX0_draw 22 = .ok (.imul, 1) := by decide +kernel
theorem dX0_draw_23 : decode cX0_draw 23 = .ok (.sipush 12345, 3) := by decide +kernel
theorem dX0_draw_26 : decode cX0_draw 26 = .ok (.iadd, 1) := by decide +kernel
theorem dX0_draw_27 : decode cX0_draw 27 = .ok (.istore_n 2, 1) := by decide +kernel
theorem dX0_draw_28 : decode cX0_draw 28 = .ok (.iload_n 2, 1) := by decide +kernel
theorem dX0_draw_29 : decode cX0_draw 29 = .ok (.bipush 16, 2) := by decide +kernel
theorem dX0_draw_31 : decode cX0_draw 31 = .ok (.iushr, 1) := by decide +kernel
theorem dX0_draw_32 : decode cX0_draw 32 = .ok (.iconst 1, 1) := by decide +kernel
theorem dX0_draw_33 : decode cX0_draw 33 = .ok (.aload_n 0, 1) := by decide +kernel
theorem dX0_draw_34 : decode cX0_draw 34 = .ok (.iload_n 3, 1) := by decide +kernel
theorem dX0_draw_35 : decode cX0_draw 35 = .ok (.invokevirtual 33, 3) := by decide +kernel
theorem dX0_draw_38 : decode cX0_draw 38 = .ok (.invokestatic 37, 3) := by decide +kernel
theorem dX0_draw_41 : decode cX0_draw 41 = .ok (.irem, 1) := by decide +kernel
theorem dX0_draw_42 : decode cX0_draw 42 = .ok (.istore 5, 2) := by decide +kernel
theorem dX0_draw_44 : decode cX0_draw 44 = .ok (.aload_n 0, 1) := by decide +kernel
theorem dX0_draw_45 : decode cX0_draw 45 = .ok (.iload_n 3, 1) := by decide +kernel
theorem dX0_draw_46 : decode cX0_draw 46 = .ok (.iload 5, 2) := by decide +kernel
theorem dX0_draw_48 : decode cX0_draw 48 = .ok (.invokevirtual 43, 3) := by decide +kernel
theorem dX0_draw_51 : decode cX0_draw 51 = .ok (.istore 6, 2) := by decide +kernel
theorem dX0_draw_53 : decode cX0_draw 53 = .ok (.aload_n 0, 1) := by decide +kernel
theorem dX0_draw_54 : decode cX0_draw 54 = .ok (.getfield 16, 3) := by decide +kernel
theorem dX0_draw_57 : decode cX0_draw 57 = .ok (.iload 4, 2) := by decide +kernel
theorem dX0_draw_59 : decode cX0_draw 59 = .ok (.iload 6, 2) := by decide +kernel
theorem dX0_draw_61 : decode cX0_draw 61 = .ok (.iastore, 1) := by decide +kernel
theorem dX0_draw_62 : decode cX0_draw 62 = .ok (.iload_n 3, 1) := by decide +kernel
theorem dX0_draw_63 : decode cX0_draw 63 = .ok (.iconst 1, 1) := by decide +kernel
theorem dX0_draw_64 : decode cX0_draw 64 = .ok (.iload 6, 2) := by decide +kernel
theorem dX0_draw_66 : decode cX0_draw 66 = .ok (.ishl, 1) := by decide +kernel
theorem dX0_draw_67 : decode cX0_draw 67 = .ok (.iconst (-1), 1) := by decide +kernel
theorem dX0_draw_68 : decode cX0_draw 68 = .ok (.ixor, 1) := by decide +kernel
theorem dX0_draw_69 : decode cX0_draw 69 = .ok (.iand, 1) := by decide +kernel
theorem dX0_draw_70 : decode cX0_draw 70 = .ok (.istore_n 3, 1) := by decide +kernel
theorem dX0_draw_71 : decode cX0_draw 71 = .ok (.iinc 4 1, 3) := by decide +kernel
theorem dX0_draw_74 : decode cX0_draw 74 = .ok (.goto (-64), 3) := by decide +kernel
theorem dX0_draw_77 : decode cX0_draw 77 = .ok (.return_, 1) := by decide +kernel
theorem dX0_owner_0 : decode cX0_owner 0 = .ok (.iload_n 2, 1) := by decide +kernel
theorem dX0_owner_1 : decode cX0_owner 1 = .ok (.istore_n 3, 1) := by decide +kernel
theorem dX0_owner_2 : decode cX0_owner 2 = .ok (.iconst 0, 1) := by decide +kernel
theorem dX0_owner_3 : decode cX0_owner 3 = .ok (.istore 4, 2) := by decide +kernel
theorem dX0_owner_5 : decode cX0_owner 5 = .ok (.iload 4, 2) := by decide +kernel
theorem dX0_owner_7 : decode cX0_owner 7 = .ok (.aload_n 0, 1) := by decide +kernel
theorem dX0_owner_8 : decode cX0_owner 8 = .ok (.invokevirtual 19, 3) := by decide +kernel
theorem dX0_owner_11 : decode cX0_owner 11 = .ok (.if_icmp .ge 42, 3) := by decide +kernel
theorem dX0_owner_14 : decode cX0_owner 14 = .ok (.iload_n 1, 1) := by decide +kernel
theorem dX0_owner_15 : decode cX0_owner 15 = .ok (.iload 4, 2) := by decide +kernel
theorem dX0_owner_17 : decode cX0_owner 17 = .ok (.invokestatic 23, 3) := by decide +kernel
theorem dX0_owner_20 : decode cX0_owner 20 = .ok (.ifCond .eq 27, 3) := by decide +kernel
theorem dX0_owner_23 : decode cX0_owner 23 = .ok (.iload_n 3, 1) := by decide +kernel
theorem dX0_owner_24 : decode cX0_owner 24 = .ok (.aload_n 0, 1) := by decide +kernel
theorem dX0_owner_25 : decode cX0_owner 25 = .ok (.getfield 13, 3) := by decide +kernel
theorem dX0_owner_28 : decode cX0_owner 28 = .ok (.iload 4, 2) := by decide +kernel
theorem dX0_owner_30 : decode cX0_owner 30 = .ok (.iaload, 1) := by decide +kernel
theorem dX0_owner_31 : decode cX0_owner 31 = .ok (.if_icmp .ge 6, 3) := by decide +kernel
theorem dX0_owner_34 : decode cX0_owner 34 = .ok (.iload 4, 2) := by decide +kernel
theorem dX0_owner_36 : decode cX0_owner 36 = .ok (.ireturn, 1) := by decide +kernel
theorem dX0_owner_37 : decode cX0_owner 37 = .ok (.iload_n 3, 1) := by decide +kernel
theorem dX0_owner_38 : decode cX0_owner 38 = .ok (.aload_n 0, 1) := by decide +kernel
theorem dX0_owner_39 : decode cX0_owner 39 = .ok (.getfield 13, 3) := by decide +kernel
theorem dX0_owner_42 : decode cX0_owner 42 = .ok (.iload 4, 2) := by decide +kernel
theorem dX0_owner_44 : decode cX0_owner 44 = .ok (.iaload, 1) := by decide +kernel
theorem dX0_owner_45 : decode cX0_owner 45 = .ok (.isub, 1) := by decide +kernel
theorem dX0_owner_46 : decode cX0_owner 46 = .ok (.istore_n 3, 1) := by decide +kernel
theorem dX0_owner_47 : decode cX0_owner 47 = .ok (.iinc 4 1, 3) := by decide +kernel
theorem dX0_owner_50 : decode cX0_owner 50 = .ok (.goto (-45), 3) := by decide +kernel
theorem dX0_owner_53 : decode cX0_owner 53 = .ok (.iconst 0, 1) := by decide +kernel
theorem dX0_owner_54 : decode cX0_owner 54 = .ok (.ireturn, 1) := by decide +kernel
theorem dX0_placeOf_0 : decode cX0_placeOf 0 = .ok (.iconst 0, 1) := by decide +kernel
theorem dX0_placeOf_1 : decode cX0_placeOf 1 = .ok (.istore_n 2, 1) := by decide +kernel
theorem dX0_placeOf_2 : decode cX0_placeOf 2 = .ok (.iconst 0, 1) := by decide +kernel
theorem dX0_placeOf_3 : decode cX0_placeOf 3 = .ok (.istore_n 3, 1) := by decide +kernel
theorem dX0_placeOf_4 : decode cX0_placeOf 4 = .ok (.iload_n 3, 1) := by decide +kernel
theorem dX0_placeOf_5 : decode cX0_placeOf 5 = .ok (.aload_n 0, 1) := by decide +kernel
theorem dX0_placeOf_6 : decode cX0_placeOf 6 = .ok (.invokevirtual 19, 3) := by decide +kernel
theorem dX0_placeOf_9 : decode cX0_placeOf 9 = .ok (.if_icmp .ge 21, 3) := by decide +kernel
theorem dX0_placeOf_12 : decode cX0_placeOf 12 = .ok (.aload_n 0, 1) := by decide +kernel
theorem dX0_placeOf_13 : decode cX0_placeOf 13 = .ok (.getfield 16, 3) := by decide +kernel
theorem dX0_placeOf_16 : decode cX0_placeOf 16 = .ok (.iload_n 3, 1) := by decide +kernel
theorem dX0_placeOf_17 : decode cX0_placeOf 17 = .ok (.iaload, 1) := by decide +kernel
theorem dX0_placeOf_18 : decode cX0_placeOf 18 = .ok (.iload_n 1, 1) := by decide +kernel
theorem dX0_placeOf_19 : decode cX0_placeOf 19 = .ok (.if_icmp .ne 5, 3) := by decide +kernel
theorem dX0_placeOf_22 : decode cX0_placeOf 22 = .ok (.iload_n 3, 1) := by decide +kernel
theorem dX0_placeOf_23 : decode cX0_placeOf 23 = .ok (.istore_n 2, 1) := by decide +kernel
theorem dX0_placeOf_24 : decode cX0_placeOf 24 = .ok (.iinc 3 1, 3) := by decide +kernel
theorem dX0_placeOf_27 : decode cX0_placeOf 27 = .ok (.goto (-23), 3) := by decide +kernel
theorem dX0_placeOf_30 : decode cX0_placeOf 30 = .ok (.iload_n 2, 1) := by decide +kernel
theorem dX0_placeOf_31 : decode cX0_placeOf 31 = .ok (.ireturn, 1) := by decide +kernel
theorem dX1_init_0 : decode cX1_init 0 = .ok (.aload_n 0, 1) := by decide +kernel
theorem dX1_init_1 : decode cX1_init 1 = .ok (.invokespecial 1, 3) := by decide +kernel
theorem dX1_init_4 : decode cX1_init 4 = .ok (.aload_n 0, 1) := by decide +kernel
theorem dX1_init_5 : decode cX1_init 5 = .ok (.bipush 20, 2) := by decide +kernel
theorem dX1_init_7 : decode cX1_init 7 = .ok (.anewarray 9, 3) := by decide +kernel
theorem dX1_init_10 : decode cX1_init 10 = .ok (.putfield 11, 3) := by decide +kernel
theorem dX1_init_13 : decode cX1_init 13 = .ok (.aload_n 0, 1) := by decide +kernel
theorem dX1_init_14 : decode cX1_init 14 = .ok (.iconst 0, 1) := by decide +kernel
theorem dX1_init_15 : decode cX1_init 15 = .ok (.putfield 15, 3) := by decide +kernel
theorem dX1_init_18 : decode cX1_init 18 = .ok (.aload_n 0, 1) := by decide +kernel
theorem dX1_init_19 : decode cX1_init 19 = .ok (.iconst 0, 1) := by decide +kernel
theorem dX1_init_20 : decode cX1_init 20 = .ok (.putfield 19, 3) := by decide +kernel
theorem dX1_init_23 : decode cX1_init 23 = .ok (.iconst 0, 1) := by decide +kernel
theorem dX1_init_24 : decode cX1_init 24 = .ok (.istore_n 1, 1) := by decide +kernel
theorem dX1_init_25 : decode cX1_init 25 = .ok (.iload_n 1, 1) := by decide +kernel
theorem dX1_init_26 : decode cX1_init 26 = .ok (.bipush 20, 2) := by decide +kernel
theorem dX1_init_28 : decode cX1_init 28 = .ok (.if_icmp .ge 22, 3) := by decide +kernel
theorem dX1_init_31 : decode cX1_init 31 = .ok (.aload_n 0, 1) := by decide +kernel
theorem dX1_init_32 : decode cX1_init 32 = .ok (.getfield 11, 3) := by decide +kernel
theorem dX1_init_35 : decode cX1_init 35 = .ok (.iload_n 1, 1) := by decide +kernel
theorem dX1_init_36 : decode cX1_init 36 = .ok (.new 9, 3) := by decide +kernel
theorem dX1_init_39 : decode cX1_init 39 = .ok (.dup, 1) := by decide +kernel
theorem dX1_init_40 : decode cX1_init 40 = .ok (.invokespecial 22, 3) := by decide +kernel
theorem dX1_init_43 : decode cX1_init 43 = .ok (.aastore, 1) := by decide +kernel
theorem dX1_init_44 : decode cX1_init 44 = .ok (.iinc 1 1, 3) := by decide +kernel
theorem dX1_init_47 : decode cX1_init 47 = .ok (.goto (-22), 3) := by decide +kernel
theorem dX1_init_50 : decode cX1_init 50 = .ok (.return_, 1) := by decide +kernel
theorem dX1_keep_0 : decode cX1_keep 0 = .ok (.aload_n 0, 1) := by decide +kernel
theorem dX1_keep_1 : decode cX1_keep 1 = .ok (.getfield 11, 3) := by decide +kernel
theorem dX1_keep_4 : decode cX1_keep 4 = .ok (.aload_n 0, 1) := by decide +kernel
theorem dX1_keep_5 : decode cX1_keep 5 = .ok (.getfield 15, 3) := by decide +kernel
theorem dX1_keep_8 : decode cX1_keep 8 = .ok (.aaload, 1) := by decide +kernel
theorem dX1_keep_9 : decode cX1_keep 9 = .ok (.aload_n 1, 1) := by decide +kernel
theorem dX1_keep_10 : decode cX1_keep 10 = .ok (.iload_n 2, 1) := by decide +kernel
theorem dX1_keep_11 : decode cX1_keep 11 = .ok (.iload_n 3, 1) := by decide +kernel
theorem dX1_keep_12 : decode cX1_keep 12 = .ok (.invokevirtual 23, 3) := by decide +kernel
theorem dX1_keep_15 : decode cX1_keep 15 = .ok (.aload_n 0, 1) := by decide +kernel
theorem dX1_keep_16 : decode cX1_keep 16 = .ok (.aload_n 0, 1) := by decide +kernel
theorem dX1_keep_17 : decode cX1_keep 17 = .ok (.getfield 15, 3) := by decide +kernel
theorem dX1_keep_20 : decode cX1_keep 20 = .ok (.iconst 1, 1) := by decide +kernel
theorem dX1_keep_21 : decode cX1_keep 21 = .ok (.iadd, 1) := by decide +kernel
theorem dX1_keep_22 : decode cX1_keep 22 = .ok (.bipush 20, 2) := by decide +kernel
theorem dX1_keep_24 : decode cX1_keep 24 = .ok (.irem, 1) := by decide +kernel
theorem dX1_keep_25 : decode cX1_keep 25 = .ok (.putfield 15, 3) := by decide +kernel
theorem dX1_keep_28 : decode cX1_keep 28 = .ok (.aload_n 0, 1) := by decide +kernel
theorem dX1_keep_29 : decode cX1_keep 29 = .ok (.bipush 20, 2) := by decide +kernel
theorem dX1_keep_31 : decode cX1_keep 31 = .ok (.aload_n 0, 1) := by decide +kernel
theorem dX1_keep_32 : decode cX1_keep 32 = .ok (.getfield 19, 3) := by decide +kernel
theorem dX1_keep_35 : decode cX1_keep 35 = .ok (.iconst 1, 1) := by decide +kernel
theorem dX1_keep_36 : decode cX1_keep 36 = .ok (.iadd, 1) := by decide +kernel
theorem dX1_keep_37 : decode cX1_keep 37 = .ok (.invokestatic 27, 3) := by decide +kernel
theorem dX1_keep_40 : decode cX1_keep 40 = .ok (.putfield 19, 3) := by decide +kernel
theorem dX1_keep_43 : decode cX1_keep 43 = .ok (.return_, 1) := by decide +kernel
theorem dX1_bringBack_0 : decode cX1_bringBack 0 = .ok (.aload_n 0, 1) := by decide +kernel
theorem dX1_bringBack_1 : decode cX1_bringBack 1 = .ok (.getfield 19, 3) := by decide +kernel
theorem dX1_bringBack_4 : decode cX1_bringBack 4 = .ok (.ifCond .ne 5, 3) := by decide +kernel
theorem dX1_bringBack_7 : decode cX1_bringBack 7 = .ok (.iconst 0, 1) := by decide +kernel
theorem dX1_bringBack_8 : decode cX1_bringBack 8 = .ok (.ireturn, 1) := by decide +kernel
theorem dX1_bringBack_9 : decode cX1_bringBack 9 = .ok (.aload_n 0, 1) := by decide +kernel
theorem dX1_bringBack_10 : decode cX1_bringBack 10 = .ok (.aload_n 0, 1) := by decide +kernel
theorem dX1_bringBack_11 : decode cX1_bringBack 11 = .ok (.getfield 15, 3) := by decide +kernel
theorem dX1_bringBack_14 : decode cX1_bringBack 14 = .ok (.bipush 20, 2) := by decide +kernel
theorem dX1_bringBack_16 : decode cX1_bringBack 16 = .ok (.iadd, 1) := by decide +kernel
theorem dX1_bringBack_17 : decode cX1_bringBack 17 = .ok (.iconst 1, 1) := by decide +kernel
theorem dX1_bringBack_18 : decode cX1_bringBack 18 = .ok (.isub, 1) := by decide +kernel
theorem dX1_bringBack_19 : decode cX1_bringBack 19 = .ok (.bipush 20, 2) := by decide +kernel
theorem dX1_bringBack_21 : decode cX1_bringBack 21 = .ok (.irem, 1) := by decide +kernel
theorem dX1_bringBack_22 : decode cX1_bringBack 22 = .ok (.putfield 15, 3) := by decide +kernel
theorem dX1_bringBack_25 : decode cX1_bringBack 25 = .ok (.aload_n 0, 1) := by decide +kernel
theorem dX1_bringBack_26 : decode cX1_bringBack 26 = .ok (.dup, 1) := by decide +kernel
theorem dX1_bringBack_27 : decode cX1_bringBack 27 = .ok (.getfield 19, 3) := by decide +kernel
theorem dX1_bringBack_30 : decode cX1_bringBack 30 = .ok (.iconst 1, 1) := by decide +kernel
theorem dX1_bringBack_31 : decode cX1_bringBack 31 = .ok (.isub, 1) := by decide +kernel
theorem dX1_bringBack_32 : decode cX1_bringBack 32 = .ok (.putfield 19, 3) := by decide +kernel
theorem dX1_bringBack_35 : decode cX1_bringBack 35 = .ok (.aload_n 0, 1) := by decide +kernel
theorem dX1_bringBack_36 : decode cX1_bringBack 36 = .ok (.getfield 11, 3) := by decide +kernel
theorem dX1_bringBack_39 : decode cX1_bringBack 39 = .ok (.aload_n 0, 1) := by decide +kernel
theorem dX1_bringBack_40 : decode cX1_bringBack 40 = .ok (.getfield 15, 3) := by decide +kernel
theorem dX1_bringBack_43 : decode cX1_bringBack 43 = .ok (.aaload, 1) := by decide +kernel
theorem dX1_bringBack_44 : decode cX1_bringBack 44 = .ok (.invokevirtual 33, 3) := by decide +kernel
theorem dX1_bringBack_47 : decode cX1_bringBack 47 = .ok (.iconst 1, 1) := by decide +kernel
theorem dX1_bringBack_48 : decode cX1_bringBack 48 = .ok (.ireturn, 1) := by decide +kernel
theorem dX2_init_0 : decode cX2_init 0 = .ok (.aload_n 0, 1) := by decide +kernel
theorem dX2_init_1 : decode cX2_init 1 = .ok (.invokespecial 1, 3) := by decide +kernel
theorem dX2_init_4 : decode cX2_init 4 = .ok (.aload_n 0, 1) := by decide +kernel
theorem dX2_init_5 : decode cX2_init 5 = .ok (.aconst_null, 1) := by decide +kernel
theorem dX2_init_6 : decode cX2_init 6 = .ok (.putfield 7, 3) := by decide +kernel
theorem dX2_init_9 : decode cX2_init 9 = .ok (.aload_n 0, 1) := by decide +kernel
theorem dX2_init_10 : decode cX2_init 10 = .ok (.iconst 0, 1) := by decide +kernel
theorem dX2_init_11 : decode cX2_init 11 = .ok (.putfield 13, 3) := by decide +kernel
theorem dX2_init_14 : decode cX2_init 14 = .ok (.aload_n 0, 1) := by decide +kernel
theorem dX2_init_15 : decode cX2_init 15 = .ok (.iconst 0, 1) := by decide +kernel
theorem dX2_init_16 : decode cX2_init 16 = .ok (.putfield 17, 3) := by decide +kernel
theorem dX2_init_19 : decode cX2_init 19 = .ok (.aload_n 0, 1) := by decide +kernel
theorem dX2_init_20 : decode cX2_init 20 = .ok (.iconst 1, 1) := by decide +kernel
theorem dX2_init_21 : decode cX2_init 21 = .ok (.newarray .int, 2) := by decide +kernel
theorem dX2_init_23 : decode cX2_init 23 = .ok (.putfield 20, 3) := by decide +kernel
theorem dX2_init_26 : decode cX2_init 26 = .ok (.return_, 1) := by decide +kernel
theorem dX2_keep_0 : decode cX2_keep 0 = .ok (.aload_n 0, 1) := by decide +kernel
theorem dX2_keep_1 : decode cX2_keep 1 = .ok (.getfield 20, 3) := by decide +kernel
theorem dX2_keep_4 : decode cX2_keep 4 = .ok (.arraylength, 1) := by decide +kernel
theorem dX2_keep_5 : decode cX2_keep 5 = .ok (.iload_n 3, 1) := by decide +kernel
theorem dX2_keep_6 : decode cX2_keep 6 = .ok (.if_icmp .ge 22, 3) := by decide +kernel
theorem dX2_keep_9 : decode cX2_keep 9 = .ok (.aload_n 0, 1) := by decide +kernel
theorem dX2_keep_10 : decode cX2_keep 10 = .ok (.iload_n 3, 1) := by decide +kernel
theorem dX2_keep_11 : decode cX2_keep 11 = .ok (.bipush 40, 2) := by decide +kernel
theorem dX2_keep_13 : decode cX2_keep 13 = .ok (.if_icmp .gt 8, 3) := by decide +kernel
theorem dX2_keep_16 : decode cX2_keep 16 = .ok (.bipush 40, 2) := by decide +kernel
theorem dX2_keep_18 : decode cX2_keep 18 = .ok (.goto 5, 3) := by decide +kernel
theorem dX2_keep_21 : decode cX2_keep 21 = .ok (.aload_n 1, 1) := by decide +kernel
theorem dX2_keep_22 : decode cX2_keep 22 = .ok (.arraylength, 1) := by decide +kernel
theorem dX2_keep_23 : decode cX2_keep 23 = .ok (.newarray .int, 2) := by decide +kernel
theorem dX2_keep_25 : decode cX2_keep 25 = .ok (.putfield 20, 3) := by decide +kernel
theorem dX2_keep_28 : decode cX2_keep 28 = .ok (.aload_n 0, 1) := by decide +kernel
theorem dX2_keep_29 : decode cX2_keep 29 = .ok (.aload_n 1, 1) := by decide +kernel
theorem dX2_keep_30 : decode cX2_keep 30 = .ok (.putfield 7, 3) := by decide +kernel
theorem dX2_keep_33 : decode cX2_keep 33 = .ok (.aload_n 0, 1) := by decide +kernel
theorem dX2_keep_34 : decode cX2_keep 34 = .ok (.iload_n 2, 1) := by decide +kernel
theorem dX2_keep_35 : decode cX2_keep 35 = .ok (.putfield 13, 3) := by decide +kernel
theorem dX2_keep_38 : decode cX2_keep 38 = .ok (.aload_n 0, 1) := by decide +kernel
theorem dX2_keep_39 : decode cX2_keep 39 = .ok (.iload_n 3, 1) := by decide +kernel
theorem dX2_keep_40 : decode cX2_keep 40 = .ok (.putfield 17, 3) := by decide +kernel
theorem dX2_keep_43 : decode cX2_keep 43 = .ok (.aload_n 0, 1) := by decide +kernel
theorem dX2_keep_44 : decode cX2_keep 44 = .ok (.getfield 7, 3) := by decide +kernel
theorem dX2_keep_47 : decode cX2_keep 47 = .ok (.aload_n 0, 1) := by decide +kernel
theorem dX2_keep_48 : decode cX2_keep 48 = .ok (.getfield 13, 3) := by decide +kernel
theorem dX2_keep_51 : decode cX2_keep 51 = .ok (.aload_n 0, 1) := by decide +kernel
theorem dX2_keep_52 : decode cX2_keep 52 = .ok (.getfield 20, 3) := by decide +kernel
theorem dX2_keep_55 : decode cX2_keep 55 = .ok (.iconst 0, 1) := by decide +kernel
theorem dX2_keep_56 : decode cX2_keep 56 = .ok (.aload_n 0, 1) := by decide +kernel
theorem dX2_keep_57 : decode cX2_keep 57 = .ok (.getfield 17, 3) := by decide +kernel
theorem dX2_keep_60 : decode cX2_keep 60 = .ok (.invokestatic 25, 3) := by decide +kernel
theorem dX2_keep_63 : decode cX2_keep 63 = .ok (.return_, 1) := by decide +kernel
theorem dX2_bringBack_0 : decode cX2_bringBack 0 = .ok (.aload_n 0, 1) := by decide +kernel
theorem dX2_bringBack_1 : decode cX2_bringBack 1 = .ok (.getfield 7, 3) := by decide +kernel
theorem dX2_bringBack_4 : decode cX2_bringBack 4 = .ok (.ifnull 23, 3) := by decide +kernel
theorem dX2_bringBack_7 : decode cX2_bringBack 7 = .ok (.aload_n 0, 1) := by decide +kernel
theorem dX2_bringBack_8 : decode cX2_bringBack 8 = .ok (.getfield 20, 3) := by decide +kernel
theorem dX2_bringBack_11 : decode cX2_bringBack 11 = .ok (.iconst 0, 1) := by decide +kernel
theorem dX2_bringBack_12 : decode cX2_bringBack 12 = .ok (.aload_n 0, 1) := by decide +kernel
theorem dX2_bringBack_13 : decode cX2_bringBack 13 = .ok (.getfield 7, 3) := by decide +kernel
theorem dX2_bringBack_16 : decode cX2_bringBack 16 = .ok (.aload_n 0, 1) := by decide +kernel
theorem dX2_bringBack_17 : decode cX2_bringBack 17 = .ok (.getfield 13, 3) := by decide +kernel
theorem dX2_bringBack_20 : decode cX2_bringBack 20 = .ok (.aload_n 0, 1) := by decide +kernel
theorem dX2_bringBack_21 : decode cX2_bringBack 21 = .ok (.getfield 17, 3) := by decide +kernel
theorem dX2_bringBack_24 : decode cX2_bringBack 24 = .ok (.invokestatic 25, 3) := by decide +kernel
theorem dX2_bringBack_27 : decode cX2_bringBack 27 = .ok (.return_, 1) := by decide +kernel
theorem dX3_init_0 : decode cX3_init 0 = .ok (.aload_n 0, 1) := by decide +kernel
theorem dX3_init_1 : decode cX3_init 1 = .ok (.invokespecial 7, 3) := by decide +kernel
theorem dX3_init_4 : decode cX3_init 4 = .ok (.aload_n 0, 1) := by decide +kernel
theorem dX3_init_5 : decode cX3_init 5 = .ok (.iconst 0, 1) := by decide +kernel
theorem dX3_init_6 : decode cX3_init 6 = .ok (.putfield 13, 3) := by decide +kernel
theorem dX3_init_9 : decode cX3_init 9 = .ok (.aload_n 0, 1) := by decide +kernel
theorem dX3_init_10 : decode cX3_init 10 = .ok (.bipush 15, 2) := by decide +kernel
theorem dX3_init_12 : decode cX3_init 12 = .ok (.newarray .int, 2) := by decide +kernel
theorem dX3_init_14 : decode cX3_init 14 = .ok (.putfield 17, 3) := by decide +kernel
theorem dX3_init_17 : decode cX3_init 17 = .ok (.aload_n 0, 1) := by decide +kernel
theorem dX3_init_18 : decode cX3_init 18 = .ok (.bipush 48, 2) := by decide +kernel
theorem dX3_init_20 : decode cX3_init 20 = .ok (.newarray .int, 2) := by decide +kernel
theorem dX3_init_22 : decode cX3_init 22 = .ok (.putfield 21, 3) := by decide +kernel
theorem dX3_init_25 : decode cX3_init 25 = .ok (.aload_n 0, 1) := by decide +kernel
theorem dX3_init_26 : decode cX3_init 26 = .ok (.sipush 225, 3) := by decide +kernel
theorem dX3_init_29 : decode cX3_init 29 = .ok (.newarray .int, 2) := by decide +kernel
theorem dX3_init_31 : decode cX3_init 31 = .ok (.putfield 24, 3) := by decide +kernel
theorem dX3_init_34 : decode cX3_init 34 = .ok (.aload_n 0, 1) := by decide +kernel
theorem dX3_init_35 : decode cX3_init 35 = .ok (.iconst 0, 1) := by decide +kernel
theorem dX3_init_36 : decode cX3_init 36 = .ok (.putfield 27, 3) := by decide +kernel
theorem dX3_init_39 : decode cX3_init 39 = .ok (.return_, 1) := by decide +kernel
theorem dX3_search_0 : decode cX3_search 0 = .ok (.aload_n 2, 1) := by decide +kernel
theorem dX3_search_1 : decode cX3_search 1 = .ok (.iload_n 3, 1) := by decide +kernel
theorem dX3_search_2 : decode cX3_search 2 = .ok (.iconst 0, 1) := by decide +kernel
theorem dX3_search_3 : decode cX3_search 3 = .ok (.invokevirtual 32, 3) := by decide +kernel
theorem dX3_search_6 : decode cX3_search 6 = .ok (.istore 4, 2) := by decide +kernel
theorem dX3_search_8 : decode cX3_search 8 = .ok (.aload_n 2, 1) := by decide +kernel
theorem dX3_search_9 : decode cX3_search 9 = .ok (.iload_n 3, 1) := by decide +kernel
theorem dX3_search_10 : decode cX3_search 10 = .ok (.iconst 1, 1) := by decide +kernel
theorem dX3_search_11 : decode cX3_search 11 = .ok (.invokevirtual 32, 3) := by decide +kernel
theorem dX3_search_14 : decode cX3_search 14 = .ok (.istore 5, 2) := by decide +kernel
theorem dX3_search_16 : decode cX3_search 16 = .ok (.aload_n 2, 1) := by decide +kernel
theorem dX3_search_17 : decode cX3_search 17 = .ok (.iload_n 3, 1) := by decide +kernel
theorem dX3_search_18 : decode cX3_search 18 = .ok (.iconst 2, 1) := by decide +kernel
theorem dX3_search_19 : decode cX3_search 19 = .ok (.invokevirtual 32, 3) := by decide +kernel
theorem dX3_search_22 : decode cX3_search 22 = .ok (.istore 6, 2) := by decide +kernel
theorem dX3_search_24 : decode cX3_search 24 = .ok (.aload_n 2, 1) := by decide +kernel
theorem dX3_search_25 : decode cX3_search 25 = .ok (.iload_n 3, 1) := by decide +kernel
theorem dX3_search_26 : decode cX3_search 26 = .ok (.iconst 3, 1) := by decide +kernel
theorem dX3_search_27 : decode cX3_search 27 = .ok (.invokevirtual 32, 3) := by decide +kernel
theorem dX3_search_30 : decode cX3_search 30 = .ok (.bipush 30, 2) := by decide +kernel
theorem dX3_search_32 : decode cX3_search 32 = .ok (.iload 5, 2) := by decide +kernel
theorem dX3_search_34 : decode cX3_search 34 = .ok (.isub, 1) := by decide +kernel
theorem dX3_search_35 : decode cX3_search 35 = .ok (.invokestatic 36, 3) := by decide +kernel
theorem dX3_search_38 : decode cX3_search 38 = .ok (.istore 7, 2) := by decide +kernel
theorem dX3_search_40 : decode cX3_search 40 = .ok (.aload_n 1, 1) := by decide +kernel
theorem dX3_search_41 : decode cX3_search 41 = .ok (.iload 4, 2) := by decide +kernel
theorem dX3_search_43 : decode cX3_search 43 = .ok (.invokevirtual 41, 3) := by decide +kernel
theorem dX3_search_46 : decode cX3_search 46 = .ok (.istore 8, 2) := by decide +kernel
theorem dX3_search_48 : decode cX3_search 48 = .ok (.aload_n 0, 1) := by decide +kernel
theorem dX3_search_49 : decode cX3_search 49 = .ok (.iconst 0, 1) := by decide +kernel
theorem dX3_search_50 : decode cX3_search 50 = .ok (.putfield 13, 3) := by decide +kernel
theorem dX3_search_53 : decode cX3_search 53 = .ok (.aload_n 0, 1) := by decide +kernel
theorem dX3_search_54 : decode cX3_search 54 = .ok (.invokevirtual 45, 3) := by decide +kernel
theorem dX3_search_57 : decode cX3_search 57 = .ok (.iconst 0, 1) := by decide +kernel
theorem dX3_search_58 : decode cX3_search 58 = .ok (.istore 9, 2) := by decide +kernel
theorem dX3_search_60 : decode cX3_search 60 = .ok (.iload 9, 2) := by decide +kernel
theorem dX3_search_62 : decode cX3_search 62 = .ok (.iload 7, 2) := by decide +kernel
theorem dX3_search_64 : decode cX3_search 64 = .ok (.if_icmp .ge 111, 3) := by decide +kernel
theorem dX3_search_67 : decode cX3_search 67 = .ok (.aload_n 0, 1) := by decide +kernel
theorem dX3_search_68 : decode cX3_search 68 = .ok (.getfield 13, 3) := by decide +kernel
theorem dX3_search_71 : decode cX3_search 71 = .ok (.ifCond .ne 104, 3) := by decide +kernel
theorem dX3_search_74 : decode cX3_search 74 = .ok (.aload_n 0, 1) := by decide +kernel
theorem dX3_search_75 : decode cX3_search 75 = .ok (.iload 9, 2) := by decide +kernel
theorem dX3_search_77 : decode cX3_search 77 = .ok (.invokevirtual 48, 3) := by decide +kernel
theorem dX3_search_80 : decode cX3_search 80 = .ok (.ifCond .eq 95, 3) := by decide +kernel
theorem dX3_search_83 : decode cX3_search 83 = .ok (.aload_n 1, 1) := by decide +kernel
theorem dX3_search_84 : decode cX3_search 84 = .ok (.iload 5, 2) := by decide +kernel
theorem dX3_search_86 : decode cX3_search 86 = .ok (.iload 9, 2) := by decide +kernel
theorem dX3_search_88 : decode cX3_search 88 = .ok (.iadd, 1) := by decide +kernel
theorem dX3_search_89 : decode cX3_search 89 = .ok (.iload 4, 2) := by decide +kernel
theorem dX3_search_91 : decode cX3_search 91 = .ok (.invokevirtual 51, 3) := by decide +kernel
theorem dX3_search_94 : decode cX3_search 94 = .ok (.istore 10, 2) := by decide +kernel
theorem dX3_search_96 : decode cX3_search 96 = .ok (.aload_n 0, 1) := by decide +kernel
theorem dX3_search_97 : decode cX3_search 97 = .ok (.aload_n 1, 1) := by decide +kernel
theorem dX3_search_98 : decode cX3_search 98 = .ok (.iload 9, 2) := by decide +kernel
theorem dX3_search_100 : decode cX3_search 100 = .ok (.iload 6, 2) := by decide +kernel
theorem dX3_search_102 : decode cX3_search 102 = .ok (.iload 10, 2) := by decide +kernel
theorem dX3_search_104 : decode cX3_search 104 = .ok (.invokevirtual 54, 3) := by decide +kernel
theorem dX3_search_107 : decode cX3_search 107 = .ok (.aload_n 0, 1) := by decide +kernel
theorem dX3_search_108 : decode cX3_search 108 = .ok (.getfield 27, 3) := by decide +kernel
theorem dX3_search_111 : decode cX3_search 111 = .ok (.ifCond .eq 14, 3) := by decide +kernel
theorem dX3_search_114 : decode cX3_search 114 = .ok (.aload_n 0, 1) := by decide +kernel
theorem dX3_search_115 : decode cX3_search 115 = .ok (.iload 9, 2) := by decide +kernel
theorem dX3_search_117 : decode cX3_search 117 = .ok (.iconst 1, 1) := by decide +kernel
theorem dX3_search_118 : decode cX3_search 118 = .ok (.iadd, 1) := by decide +kernel
theorem dX3_search_119 : decode cX3_search 119 = .ok (.putfield 13, 3) := by decide +kernel
theorem dX3_search_122 : decode cX3_search 122 = .ok (.goto 47, 3) := by decide +kernel
theorem dX3_search_125 : decode cX3_search 125 = .ok (.iload 8, 2) := by decide +kernel
theorem dX3_search_127 : decode cX3_search 127 = .ok (.aload_n 2, 1) := by decide +kernel
theorem dX3_search_128 : decode cX3_search 128 = .ok (.iload_n 3, 1) := by decide +kernel
theorem dX3_search_129 : decode cX3_search 129 = .ok (.iload 5, 2) := by decide +kernel
theorem dX3_search_131 : decode cX3_search 131 = .ok (.iload 9, 2) := by decide +kernel
theorem dX3_search_133 : decode cX3_search 133 = .ok (.iadd, 1) := by decide +kernel
theorem dX3_search_134 : decode cX3_search 134 = .ok (.invokevirtual 58, 3) := by decide +kernel
theorem dX3_search_137 : decode cX3_search 137 = .ok (.iconst (-1), 1) := by decide +kernel
theorem dX3_search_138 : decode cX3_search 138 = .ok (.ixor, 1) := by decide +kernel
theorem dX3_search_139 : decode cX3_search 139 = .ok (.iand, 1) := by decide +kernel
theorem dX3_search_140 : decode cX3_search 140 = .ok (.istore 11, 2) := by decide +kernel
theorem dX3_search_142 : decode cX3_search 142 = .ok (.aload_n 0, 1) := by decide +kernel
theorem dX3_search_143 : decode cX3_search 143 = .ok (.aload_n 1, 1) := by decide +kernel
theorem dX3_search_144 : decode cX3_search 144 = .ok (.iload 9, 2) := by decide +kernel
theorem dX3_search_146 : decode cX3_search 146 = .ok (.iload 6, 2) := by decide +kernel
theorem dX3_search_148 : decode cX3_search 148 = .ok (.iload 10, 2) := by decide +kernel
theorem dX3_search_150 : decode cX3_search 150 = .ok (.iload 11, 2) := by decide +kernel
theorem dX3_search_152 : decode cX3_search 152 = .ok (.invokevirtual 61, 3) := by decide +kernel
theorem dX3_search_155 : decode cX3_search 155 = .ok (.aload_n 0, 1) := by decide +kernel
theorem dX3_search_156 : decode cX3_search 156 = .ok (.iload 9, 2) := by decide +kernel
theorem dX3_search_158 : decode cX3_search 158 = .ok (.aload_n 2, 1) := by decide +kernel
theorem dX3_search_159 : decode cX3_search 159 = .ok (.iload_n 3, 1) := by decide +kernel
theorem dX3_search_160 : decode cX3_search 160 = .ok (.iconst 4, 1) := by decide +kernel
theorem dX3_search_161 : decode cX3_search 161 = .ok (.invokevirtual 32, 3) := by decide +kernel
theorem dX3_search_164 : decode cX3_search 164 = .ok (.iload 11, 2) := by decide +kernel
theorem dX3_search_166 : decode cX3_search 166 = .ok (.invokevirtual 65, 3) := by decide +kernel
theorem dX3_search_169 : decode cX3_search 169 = .ok (.iinc 9 1, 3) := by decide +kernel
theorem dX3_search_172 : decode cX3_search 172 = .ok (.goto (-112), 3) := by decide +kernel
theorem dX3_search_175 : decode cX3_search 175 = .ok (.aload_n 0, 1) := by decide +kernel
theorem dX3_search_176 : decode cX3_search 176 = .ok (.invokevirtual 69, 3) := by decide +kernel
theorem dX3_search_179 : decode cX3_search 179 = .ok (.aload_n 0, 1) := by decide +kernel
theorem dX3_search_180 : decode cX3_search 180 = .ok (.invokevirtual 72, 3) := by decide +kernel
theorem dX3_search_183 : decode cX3_search 183 = .ok (.aload_n 0, 1) := by decide +kernel
theorem dX3_search_184 : decode cX3_search 184 = .ok (.getfield 13, 3) := by decide +kernel
theorem dX3_search_187 : decode cX3_search 187 = .ok (.ifCond .le 7, 3) := by decide +kernel
theorem dX3_search_190 : decode cX3_search 190 = .ok (.iconst 1, 1) := by decide +kernel
theorem dX3_search_191 : decode cX3_search 191 = .ok (.goto 4, 3) := by decide +kernel
theorem dX3_search_194 : decode cX3_search 194 = .ok (.iconst 0, 1) := by decide +kernel
theorem dX3_search_195 : decode cX3_search 195 = .ok (.ireturn, 1) := by decide +kernel
theorem dX3_writeNights_0 : decode cX3_writeNights 0 = .ok (.aload_n 1, 1) := by decide +kernel
theorem dX3_writeNights_1 : decode cX3_writeNights 1 = .ok (.iload_n 2, 1) := by decide +kernel
theorem dX3_writeNights_2 : decode cX3_writeNights 2 = .ok (.iconst 1, 1) := by decide +kernel
theorem dX3_writeNights_3 : decode cX3_writeNights 3 = .ok (.invokevirtual 32, 3) := by decide +kernel
theorem dX3_writeNights_6 : decode cX3_writeNights 6 = .ok (.istore_n 3, 1) := by decide +kernel
theorem dX3_writeNights_7 : decode cX3_writeNights 7 = .ok (.aload_n 1, 1) := by decide +kernel
theorem dX3_writeNights_8 : decode cX3_writeNights 8 = .ok (.iload_n 2, 1) := by decide +kernel
theorem dX3_writeNights_9 : decode cX3_writeNights 9 = .ok (.invokevirtual 75, 3) := by decide +kernel
theorem dX3_writeNights_12 : decode cX3_writeNights 12 = .ok (.iconst 0, 1) := by decide +kernel
theorem dX3_writeNights_13 : decode cX3_writeNights 13 = .ok (.istore 4, 2) := by decide +kernel
theorem dX3_writeNights_15 : decode cX3_writeNights 15 = .ok (.iload 4, 2) := by decide +kernel
theorem dX3_writeNights_17 : decode cX3_writeNights 17 = .ok (.aload_n 0, 1) := by decide +kernel
theorem dX3_writeNights_18 : decode cX3_writeNights 18 = .ok (.getfield 13, 3) := by decide +kernel
theorem dX3_writeNights_21 : decode cX3_writeNights 21 = .ok (.iconst 1, 1) := by decide +kernel
theorem dX3_writeNights_22 : decode cX3_writeNights 22 = .ok (.isub, 1) := by decide +kernel
theorem dX3_writeNights_23 : decode cX3_writeNights 23 = .ok (.if_icmp .ge 27, 3) := by decide +kernel
theorem dX3_writeNights_26 : decode cX3_writeNights 26 = .ok (.aload_n 1, 1) := by decide +kernel
theorem dX3_writeNights_27 : decode cX3_writeNights 27 = .ok (.iload_n 2, 1) := by decide +kernel
theorem dX3_writeNights_28 : decode cX3_writeNights 28 = .ok (.iconst 5, 1) := by decide +kernel
theorem dX3_writeNights_29 : decode cX3_writeNights 29 = .ok (.iload_n 3, 1) := by decide +kernel
theorem dX3_writeNights_30 : decode cX3_writeNights 30 = .ok (.iadd, 1) := by decide +kernel
theorem dX3_writeNights_31 : decode cX3_writeNights 31 = .ok (.iload 4, 2) := by decide +kernel
theorem dX3_writeNights_33 : decode cX3_writeNights 33 = .ok (.iadd, 1) := by decide +kernel
theorem dX3_writeNights_34 : decode cX3_writeNights 34 = .ok (.aload_n 0, 1) := by decide +kernel
theorem dX3_writeNights_35 : decode cX3_writeNights 35 = .ok (.getfield 17, 3) := by decide +kernel
theorem dX3_writeNights_38 : decode cX3_writeNights 38 = .ok (.iload 4, 2) := by decide +kernel
theorem dX3_writeNights_40 : decode cX3_writeNights 40 = .ok (.iaload, 1) := by decide +kernel
theorem dX3_writeNights_41 : decode cX3_writeNights 41 = .ok (.invokevirtual 79, 3) := by decide +kernel
theorem dX3_writeNights_44 : decode cX3_writeNights 44 = .ok (.iinc 4 1, 3) := by decide +kernel
theorem dX3_writeNights_47 : decode cX3_writeNights 47 = .ok (.goto (-32), 3) := by decide +kernel
theorem dX3_writeNights_50 : decode cX3_writeNights 50 = .ok (.return_, 1) := by decide +kernel
theorem dX3_schedule_0 : decode cX3_schedule 0 = .ok (.iconst 0, 1) := by decide +kernel
theorem dX3_schedule_1 : decode cX3_schedule 1 = .ok (.istore 4, 2) := by decide +kernel
theorem dX3_schedule_3 : decode cX3_schedule 3 = .ok (.iload 4, 2) := by decide +kernel
theorem dX3_schedule_5 : decode cX3_schedule 5 = .ok (.aload_n 2, 1) := by decide +kernel
theorem dX3_schedule_6 : decode cX3_schedule 6 = .ok (.invokevirtual 82, 3) := by decide +kernel
theorem dX3_schedule_9 : decode cX3_schedule 9 = .ok (.if_icmp .ge 24, 3) := by decide +kernel
theorem dX3_schedule_12 : decode cX3_schedule 12 = .ok (.iload_n 3, 1) := by decide +kernel
theorem dX3_schedule_13 : decode cX3_schedule 13 = .ok (.iload 4, 2) := by decide +kernel
theorem dX3_schedule_15 : decode cX3_schedule 15 = .ok (.invokestatic 86, 3) := by decide +kernel
theorem dX3_schedule_18 : decode cX3_schedule 18 = .ok (.ifCond .eq 9, 3) := by decide +kernel
theorem dX3_schedule_21 : decode cX3_schedule 21 = .ok (.aload_n 2, 1) := by decide +kernel
theorem dX3_schedule_22 : decode cX3_schedule 22 = .ok (.iload 4, 2) := by decide +kernel
theorem dX3_schedule_24 : decode cX3_schedule 24 = .ok (.invokevirtual 75, 3) := by decide +kernel
theorem dX3_schedule_27 : decode cX3_schedule 27 = .ok (.iinc 4 1, 3) := by decide +kernel
theorem dX3_schedule_30 : decode cX3_schedule 30 = .ok (.goto (-27), 3) := by decide +kernel
theorem dX3_schedule_33 : decode cX3_schedule 33 = .ok (.iconst 0, 1) := by decide +kernel
theorem dX3_schedule_34 : decode cX3_schedule 34 = .ok (.istore 4, 2) := by decide +kernel
theorem dX3_schedule_36 : decode cX3_schedule 36 = .ok (.iconst 0, 1) := by decide +kernel
theorem dX3_schedule_37 : decode cX3_schedule 37 = .ok (.istore 5, 2) := by decide +kernel
theorem dX3_schedule_39 : decode cX3_schedule 39 = .ok (.iload 5, 2) := by decide +kernel
theorem dX3_schedule_41 : decode cX3_schedule 41 = .ok (.aload_n 2, 1) := by decide +kernel
theorem dX3_schedule_42 : decode cX3_schedule 42 = .ok (.invokevirtual 82, 3) := by decide +kernel
theorem dX3_schedule_45 : decode cX3_schedule 45 = .ok (.if_icmp .ge 39, 3) := by decide +kernel
theorem dX3_schedule_48 : decode cX3_schedule 48 = .ok (.iload_n 3, 1) := by decide +kernel
theorem dX3_schedule_49 : decode cX3_schedule 49 = .ok (.iload 5, 2) := by decide +kernel
theorem dX3_schedule_51 : decode cX3_schedule 51 = .ok (.invokestatic 86, 3) := by decide +kernel
theorem dX3_schedule_54 : decode cX3_schedule 54 = .ok (.ifCond .eq 24, 3) := by decide +kernel
theorem dX3_schedule_57 : decode cX3_schedule 57 = .ok (.aload_n 0, 1) := by decide +kernel
theorem dX3_schedule_58 : decode cX3_schedule 58 = .ok (.aload_n 1, 1) := by decide +kernel
theorem dX3_schedule_59 : decode cX3_schedule 59 = .ok (.aload_n 2, 1) := by decide +kernel
theorem dX3_schedule_60 : decode cX3_schedule 60 = .ok (.iload 5, 2) := by decide +kernel
theorem dX3_schedule_62 : decode cX3_schedule 62 = .ok (.invokevirtual 90, 3) := by decide +kernel
theorem dX3_schedule_65 : decode cX3_schedule 65 = .ok (.ifCond .eq 13, 3) := by decide +kernel
theorem dX3_schedule_68 : decode cX3_schedule 68 = .ok (.aload_n 0, 1) := by decide +kernel
theorem dX3_schedule_69 : decode cX3_schedule 69 = .ok (.aload_n 2, 1) := by decide +kernel
theorem dX3_schedule_70 : decode cX3_schedule 70 = .ok (.iload 5, 2) := by decide +kernel
theorem dX3_schedule_72 : decode cX3_schedule 72 = .ok (.invokevirtual 94, 3) := by decide +kernel
theorem dX3_schedule_75 : decode cX3_schedule 75 = .ok (.iinc 4 1, 3) := by decide +kernel
theorem dX3_schedule_78 : decode cX3_schedule 78 = .ok (.iinc 5 1, 3) := by decide +kernel
theorem dX3_schedule_81 : decode cX3_schedule 81 = .ok (.goto (-42), 3) := by decide +kernel
theorem dX3_schedule_84 : decode cX3_schedule 84 = .ok (.iload 4, 2) := by decide +kernel
theorem dX3_schedule_86 : decode cX3_schedule 86 = .ok (.ireturn, 1) := by decide +kernel
theorem dX3_startAhead_0 : decode cX3_startAhead 0 = .ok (.aload_n 0, 1) := by decide +kernel
theorem dX3_startAhead_1 : decode cX3_startAhead 1 = .ok (.getfield 21, 3) := by decide +kernel
theorem dX3_startAhead_4 : decode cX3_startAhead 4 = .ok (.iconst 0, 1) := by decide +kernel
theorem dX3_startAhead_5 : decode cX3_startAhead 5 = .ok (.invokestatic 98, 3) := by decide +kernel
theorem dX3_startAhead_8 : decode cX3_startAhead 8 = .ok (.aload_n 0, 1) := by decide +kernel
theorem dX3_startAhead_9 : decode cX3_startAhead 9 = .ok (.getfield 21, 3) := by decide +kernel
theorem dX3_startAhead_12 : decode cX3_startAhead 12 = .ok (.iconst 0, 1) := by decide +kernel
theorem dX3_startAhead_13 : decode cX3_startAhead 13 = .ok (.sipush 16384, 3) := by decide +kernel
theorem dX3_startAhead_16 : decode cX3_startAhead 16 = .ok (.iastore, 1) := by decide +kernel
theorem dX3_startAhead_17 : decode cX3_startAhead 17 = .ok (.return_, 1) := by decide +kernel
theorem dX3_placesAhead_0 : decode cX3_placesAhead 0 = .ok (.iconst 0, 1) := by decide +kernel
theorem dX3_placesAhead_1 : decode cX3_placesAhead 1 = .ok (.istore_n 2, 1) := by decide +kernel
theorem dX3_placesAhead_2 : decode cX3_placesAhead 2 = .ok (.iconst 0, 1) := by decide +kernel
theorem dX3_placesAhead_3 : decode cX3_placesAhead 3 = .ok (.istore_n 3, 1) := by decide +kernel
theorem dX3_placesAhead_4 : decode cX3_placesAhead 4 = .ok (.iload_n 3, 1) := by decide +kernel
theorem dX3_placesAhead_5 : decode cX3_placesAhead 5 = .ok (.iconst 3, 1) := by decide +kernel
theorem dX3_placesAhead_6 : decode cX3_placesAhead 6 = .ok (.if_icmp .ge 22, 3) := by decide +kernel
theorem dX3_placesAhead_9 : decode cX3_placesAhead 9 = .ok (.iload_n 2, 1) := by decide +kernel
theorem dX3_placesAhead_10 : decode cX3_placesAhead 10 = .ok (.aload_n 0, 1) := by decide +kernel
theorem dX3_placesAhead_11 : decode cX3_placesAhead 11 = .ok (.getfield 21, 3) := by decide +kernel
theorem dX3_placesAhead_14 : decode cX3_placesAhead 14 = .ok (.iload_n 1, 1) := by decide +kernel
theorem dX3_placesAhead_15 : decode cX3_placesAhead 15 = .ok (.iconst 3, 1) := by decide +kernel
theorem dX3_placesAhead_16 : decode cX3_placesAhead 16 = .ok (.imul, 1) := by decide +kernel
theorem dX3_placesAhead_17 : decode cX3_placesAhead 17 = .ok (.iload_n 3, 1) := by decide +kernel
theorem dX3_placesAhead_18 : decode cX3_placesAhead 18 = .ok (.iadd, 1) := by decide +kernel
theorem dX3_placesAhead_19 : decode cX3_placesAhead 19 = .ok (.iaload, 1) := by decide +kernel
theorem dX3_placesAhead_20 : decode cX3_placesAhead 20 = .ok (.ior, 1) := by decide +kernel
theorem dX3_placesAhead_21 : decode cX3_placesAhead 21 = .ok (.istore_n 2, 1) := by decide +kernel
theorem dX3_placesAhead_22 : decode cX3_placesAhead 22 = .ok (.iinc 3 1, 3) := by decide +kernel
theorem dX3_placesAhead_25 : decode cX3_placesAhead 25 = .ok (.goto (-21), 3) := by decide +kernel
theorem dX3_placesAhead_28 : decode cX3_placesAhead 28 = .ok (.iload_n 2, 1) := by decide +kernel
theorem dX3_placesAhead_29 : decode cX3_placesAhead 29 = .ok (.ireturn, 1) := by decide +kernel
theorem dX3_findEnders_0 : decode cX3_findEnders 0 = .ok (.aload_n 0, 1) := by decide +kernel
theorem dX3_findEnders_1 : decode cX3_findEnders 1 = .ok (.iload_n 2, 1) := by decide +kernel
theorem dX3_findEnders_2 : decode cX3_findEnders 2 = .ok (.invokevirtual 48, 3) := by decide +kernel
theorem dX3_findEnders_5 : decode cX3_findEnders 5 = .ok (.istore 5, 2) := by decide +kernel
theorem dX3_findEnders_7 : decode cX3_findEnders 7 = .ok (.aload_n 0, 1) := by decide +kernel
theorem dX3_findEnders_8 : decode cX3_findEnders 8 = .ok (.iconst 0, 1) := by decide +kernel
theorem dX3_findEnders_9 : decode cX3_findEnders 9 = .ok (.putfield 27, 3) := by decide +kernel
theorem dX3_findEnders_12 : decode cX3_findEnders 12 = .ok (.iconst 0, 1) := by decide +kernel
theorem dX3_findEnders_13 : decode cX3_findEnders 13 = .ok (.istore 6, 2) := by decide +kernel
theorem dX3_findEnders_15 : decode cX3_findEnders 15 = .ok (.iload 6, 2) := by decide +kernel
theorem dX3_findEnders_17 : decode cX3_findEnders 17 = .ok (.bipush 15, 2) := by decide +kernel
theorem dX3_findEnders_19 : decode cX3_findEnders 19 = .ok (.if_icmp .ge 44, 3) := by decide +kernel
theorem dX3_findEnders_22 : decode cX3_findEnders 22 = .ok (.iload 5, 2) := by decide +kernel
theorem dX3_findEnders_24 : decode cX3_findEnders 24 = .ok (.iload 6, 2) := by decide +kernel
theorem dX3_findEnders_26 : decode cX3_findEnders 26 = .ok (.invokestatic 86, 3) := by decide +kernel
theorem dX3_findEnders_29 : decode cX3_findEnders 29 = .ok (.ifCond .eq 28, 3) := by decide +kernel
theorem dX3_findEnders_32 : decode cX3_findEnders 32 = .ok (.aload_n 1, 1) := by decide +kernel
theorem dX3_findEnders_33 : decode cX3_findEnders 33 = .ok (.iload 6, 2) := by decide +kernel
theorem dX3_findEnders_35 : decode cX3_findEnders 35 = .ok (.iload_n 3, 1) := by decide +kernel
theorem dX3_findEnders_36 : decode cX3_findEnders 36 = .ok (.iload 4, 2) := by decide +kernel
theorem dX3_findEnders_38 : decode cX3_findEnders 38 = .ok (.invokevirtual 104, 3) := by decide +kernel
theorem dX3_findEnders_41 : decode cX3_findEnders 41 = .ok (.ifCond .eq 16, 3) := by decide +kernel
theorem dX3_findEnders_44 : decode cX3_findEnders 44 = .ok (.aload_n 0, 1) := by decide +kernel
theorem dX3_findEnders_45 : decode cX3_findEnders 45 = .ok (.dup, 1) := by decide +kernel
theorem dX3_findEnders_46 : decode cX3_findEnders 46 = .ok (.getfield 27, 3) := by decide +kernel
theorem dX3_findEnders_49 : decode cX3_findEnders 49 = .ok (.iconst 1, 1) := by decide +kernel
theorem dX3_findEnders_50 : decode cX3_findEnders 50 = .ok (.iload 6, 2) := by decide +kernel
theorem dX3_findEnders_52 : decode cX3_findEnders 52 = .ok (.ishl, 1) := by decide +kernel
theorem dX3_findEnders_53 : decode cX3_findEnders 53 = .ok (.ior, 1) := by decide +kernel
theorem dX3_findEnders_54 : decode cX3_findEnders 54 = .ok (.putfield 27, 3) := by decide +kernel
theorem dX3_findEnders_57 : decode cX3_findEnders 57 = .ok (.iinc 6 1, 3) := by decide +kernel
theorem dX3_findEnders_60 : decode cX3_findEnders 60 = .ok (.goto (-45), 3) := by decide +kernel
theorem dX3_findEnders_63 : decode cX3_findEnders 63 = .ok (.return_, 1) := by decide +kernel
theorem dX3_findLeads_0 : decode cX3_findLeads 0 = .ok (.aload_n 0, 1) := by decide +kernel
theorem dX3_findLeads_1 : decode cX3_findLeads 1 = .ok (.iload_n 2, 1) := by decide +kernel
theorem dX3_findLeads_2 : decode cX3_findLeads 2 = .ok (.invokevirtual 48, 3) := by decide +kernel
theorem dX3_findLeads_5 : decode cX3_findLeads 5 = .ok (.istore 6, 2) := by decide +kernel
theorem dX3_findLeads_7 : decode cX3_findLeads 7 = .ok (.iconst 0, 1) := by decide +kernel
theorem dX3_findLeads_8 : decode cX3_findLeads 8 = .ok (.istore 7, 2) := by decide +kernel
theorem dX3_findLeads_10 : decode cX3_findLeads 10 = .ok (.iload 7, 2) := by decide +kernel
theorem dX3_findLeads_12 : decode cX3_findLeads 12 = .ok (.bipush 15, 2) := by decide +kernel
theorem dX3_findLeads_14 : decode cX3_findLeads 14 = .ok (.if_icmp .ge 47, 3) := by decide +kernel
theorem dX3_findLeads_17 : decode cX3_findLeads 17 = .ok (.aload_n 0, 1) := by decide +kernel
theorem dX3_findLeads_18 : decode cX3_findLeads 18 = .ok (.getfield 24, 3) := by decide +kernel
theorem dX3_findLeads_21 : decode cX3_findLeads 21 = .ok (.iload_n 2, 1) := by decide +kernel
theorem dX3_findLeads_22 : decode cX3_findLeads 22 = .ok (.bipush 15, 2) := by decide +kernel
theorem dX3_findLeads_24 : decode cX3_findLeads 24 = .ok (.imul, 1) := by decide +kernel
theorem dX3_findLeads_25 : decode cX3_findLeads 25 = .ok (.iload 7, 2) := by decide +kernel
theorem dX3_findLeads_27 : decode cX3_findLeads 27 = .ok (.iadd, 1) := by decide +kernel
theorem dX3_findLeads_28 : decode cX3_findLeads 28 = .ok (.iload 6, 2) := by decide +kernel
theorem dX3_findLeads_30 : decode cX3_findLeads 30 = .ok (.iload 7, 2) := by decide +kernel
theorem dX3_findLeads_32 : decode cX3_findLeads 32 = .ok (.invokestatic 86, 3) := by decide +kernel
theorem dX3_findLeads_35 : decode cX3_findLeads 35 = .ok (.ifCond .eq 18, 3) := by decide +kernel
theorem dX3_findLeads_38 : decode cX3_findLeads 38 = .ok (.aload_n 1, 1) := by decide +kernel
theorem dX3_findLeads_39 : decode cX3_findLeads 39 = .ok (.iload 7, 2) := by decide +kernel
theorem dX3_findLeads_41 : decode cX3_findLeads 41 = .ok (.iload_n 3, 1) := by decide +kernel
theorem dX3_findLeads_42 : decode cX3_findLeads 42 = .ok (.iload 4, 2) := by decide +kernel
theorem dX3_findLeads_44 : decode cX3_findLeads 44 = .ok (.invokevirtual 108, 3) := by decide +kernel
theorem dX3_findLeads_47 : decode cX3_findLeads 47 = .ok (.iload 5, 2) := by decide +kernel
theorem dX3_findLeads_49 : decode cX3_findLeads 49 = .ok (.iand, 1) := by decide +kernel
theorem dX3_findLeads_50 : decode cX3_findLeads 50 = .ok (.goto 4, 3) := by decide +kernel
theorem dX3_findLeads_53 : decode cX3_findLeads 53 = .ok (.iconst 0, 1) := by decide +kernel
theorem dX3_findLeads_54 : decode cX3_findLeads 54 = .ok (.iastore, 1) := by decide +kernel
theorem dX3_findLeads_55 : decode cX3_findLeads 55 = .ok (.iinc 7 1, 3) := by decide +kernel
theorem dX3_findLeads_58 : decode cX3_findLeads 58 = .ok (.goto (-48), 3) := by decide +kernel
theorem dX3_findLeads_61 : decode cX3_findLeads 61 = .ok (.return_, 1) := by decide +kernel
theorem dX3_spread_0 : decode cX3_spread 0 = .ok (.iconst 0, 1) := by decide +kernel
theorem dX3_spread_1 : decode cX3_spread 1 = .ok (.istore 4, 2) := by decide +kernel
theorem dX3_spread_3 : decode cX3_spread 3 = .ok (.iload 4, 2) := by decide +kernel
theorem dX3_spread_5 : decode cX3_spread 5 = .ok (.iload_n 2, 1) := by decide +kernel
theorem dX3_spread_6 : decode cX3_spread 6 = .ok (.if_icmp .gt 108, 3) := by decide +kernel
theorem dX3_spread_9 : decode cX3_spread 9 = .ok (.aload_n 0, 1) := by decide +kernel
theorem dX3_spread_10 : decode cX3_spread 10 = .ok (.getfield 21, 3) := by decide +kernel
theorem dX3_spread_13 : decode cX3_spread 13 = .ok (.iload_n 1, 1) := by decide +kernel
theorem dX3_spread_14 : decode cX3_spread 14 = .ok (.iconst 3, 1) := by decide +kernel
theorem dX3_spread_15 : decode cX3_spread 15 = .ok (.imul, 1) := by decide +kernel
theorem dX3_spread_16 : decode cX3_spread 16 = .ok (.iload 4, 2) := by decide +kernel
theorem dX3_spread_18 : decode cX3_spread 18 = .ok (.iadd, 1) := by decide +kernel
theorem dX3_spread_19 : decode cX3_spread 19 = .ok (.iaload, 1) := by decide +kernel
theorem dX3_spread_20 : decode cX3_spread 20 = .ok (.istore 5, 2) := by decide +kernel
theorem dX3_spread_22 : decode cX3_spread 22 = .ok (.iconst 0, 1) := by decide +kernel
theorem dX3_spread_23 : decode cX3_spread 23 = .ok (.istore 6, 2) := by decide +kernel
theorem dX3_spread_25 : decode cX3_spread 25 = .ok (.iconst 0, 1) := by decide +kernel
theorem dX3_spread_26 : decode cX3_spread 26 = .ok (.istore 7, 2) := by decide +kernel
theorem dX3_spread_28 : decode cX3_spread 28 = .ok (.iload 7, 2) := by decide +kernel
theorem dX3_spread_30 : decode cX3_spread 30 = .ok (.bipush 15, 2) := by decide +kernel
theorem dX3_spread_32 : decode cX3_spread 32 = .ok (.if_icmp .ge 36, 3) := by decide +kernel
theorem dX3_spread_35 : decode cX3_spread 35 = .ok (.iload 5, 2) := by decide +kernel
theorem dX3_spread_37 : decode cX3_spread 37 = .ok (.iload 7, 2) := by decide +kernel
theorem dX3_spread_39 : decode cX3_spread 39 = .ok (.invokestatic 86, 3) := by decide +kernel
theorem dX3_spread_42 : decode cX3_spread 42 = .ok (.ifCond .eq 20, 3) := by decide +kernel
theorem dX3_spread_45 : decode cX3_spread 45 = .ok (.iload 6, 2) := by decide +kernel
theorem dX3_spread_47 : decode cX3_spread 47 = .ok (.aload_n 0, 1) := by decide +kernel
theorem dX3_spread_48 : decode cX3_spread 48 = .ok (.getfield 24, 3) := by decide +kernel
theorem dX3_spread_51 : decode cX3_spread 51 = .ok (.iload_n 1, 1) := by decide +kernel
theorem dX3_spread_52 : decode cX3_spread 52 = .ok (.bipush 15, 2) := by decide +kernel
theorem dX3_spread_54 : decode cX3_spread 54 = .ok (.imul, 1) := by decide +kernel
theorem dX3_spread_55 : decode cX3_spread 55 = .ok (.iload 7, 2) := by decide +kernel
theorem dX3_spread_57 : decode cX3_spread 57 = .ok (.iadd, 1) := by decide +kernel
theorem dX3_spread_58 : decode cX3_spread 58 = .ok (.iaload, 1) := by decide +kernel
theorem dX3_spread_59 : decode cX3_spread 59 = .ok (.ior, 1) := by decide +kernel
theorem dX3_spread_60 : decode cX3_spread 60 = .ok (.istore 6, 2) := by decide +kernel
theorem dX3_spread_62 : decode cX3_spread 62 = .ok (.iinc 7 1, 3) := by decide +kernel
theorem dX3_spread_65 : decode cX3_spread 65 = .ok (.goto (-37), 3) := by decide +kernel
theorem dX3_spread_68 : decode cX3_spread 68 = .ok (.iload 4, 2) := by decide +kernel
theorem dX3_spread_70 : decode cX3_spread 70 = .ok (.ifCond .le 23, 3) := by decide +kernel
theorem dX3_spread_73 : decode cX3_spread 73 = .ok (.iload 6, 2) := by decide +kernel
theorem dX3_spread_75 : decode cX3_spread 75 = .ok (.aload_n 0, 1) := by decide +kernel
theorem dX3_spread_76 : decode cX3_spread 76 = .ok (.getfield 21, 3) := by decide +kernel
theorem dX3_spread_79 : decode cX3_spread 79 = .ok (.iload_n 1, 1) := by decide +kernel
theorem dX3_spread_80 : decode cX3_spread 80 = .ok (.iconst 3, 1) := by decide +kernel
theorem dX3_spread_81 : decode cX3_spread 81 = .ok (.imul, 1) := by decide +kernel
theorem dX3_spread_82 : decode cX3_spread 82 = .ok (.iload 4, 2) := by decide +kernel
theorem dX3_spread_84 : decode cX3_spread 84 = .ok (.iadd, 1) := by decide +kernel
theorem dX3_spread_85 : decode cX3_spread 85 = .ok (.iconst 1, 1) := by decide +kernel
theorem dX3_spread_86 : decode cX3_spread 86 = .ok (.isub, 1) := by decide +kernel
theorem dX3_spread_87 : decode cX3_spread 87 = .ok (.iaload, 1) := by decide +kernel
theorem dX3_spread_88 : decode cX3_spread 88 = .ok (.iload_n 3, 1) := by decide +kernel
theorem dX3_spread_89 : decode cX3_spread 89 = .ok (.iand, 1) := by decide +kernel
theorem dX3_spread_90 : decode cX3_spread 90 = .ok (.ior, 1) := by decide +kernel
theorem dX3_spread_91 : decode cX3_spread 91 = .ok (.istore 6, 2) := by decide +kernel
theorem dX3_spread_93 : decode cX3_spread 93 = .ok (.aload_n 0, 1) := by decide +kernel
theorem dX3_spread_94 : decode cX3_spread 94 = .ok (.getfield 21, 3) := by decide +kernel
theorem dX3_spread_97 : decode cX3_spread 97 = .ok (.iload_n 1, 1) := by decide +kernel
theorem dX3_spread_98 : decode cX3_spread 98 = .ok (.iconst 1, 1) := by decide +kernel
theorem dX3_spread_99 : decode cX3_spread 99 = .ok (.iadd, 1) := by decide +kernel
theorem dX3_spread_100 : decode cX3_spread 100 = .ok (.iconst 3, 1) := by decide +kernel
theorem dX3_spread_101 : decode cX3_spread 101 = .ok (.imul, 1) := by decide +kernel
theorem dX3_spread_102 : decode cX3_spread 102 = .ok (.iload 4, 2) := by decide +kernel
theorem dX3_spread_104 : decode cX3_spread 104 = .ok (.iadd, 1) := by decide +kernel
theorem dX3_spread_105 : decode cX3_spread 105 = .ok (.iload 6, 2) := by decide +kernel
theorem dX3_spread_107 : decode cX3_spread 107 = .ok (.iastore, 1) := by decide +kernel
theorem dX3_spread_108 : decode cX3_spread 108 = .ok (.iinc 4 1, 3) := by decide +kernel
theorem dX3_spread_111 : decode cX3_spread 111 = .ok (.goto (-108), 3) := by decide +kernel
theorem dX3_spread_114 : decode cX3_spread 114 = .ok (.return_, 1) := by decide +kernel
theorem dX3_dropDeadEnds_0 : decode cX3_dropDeadEnds 0 = .ok (.aload_n 0, 1) := by decide +kernel
theorem dX3_dropDeadEnds_1 : decode cX3_dropDeadEnds 1 = .ok (.getfield 13, 3) := by decide +kernel
theorem dX3_dropDeadEnds_4 : decode cX3_dropDeadEnds 4 = .ok (.iconst 1, 1) := by decide +kernel
theorem dX3_dropDeadEnds_5 : decode cX3_dropDeadEnds 5 = .ok (.isub, 1) := by decide +kernel
theorem dX3_dropDeadEnds_6 : decode cX3_dropDeadEnds 6 = .ok (.istore_n 1, 1) := by decide +kernel
theorem dX3_dropDeadEnds_7 : decode cX3_dropDeadEnds 7 = .ok (.iload_n 1, 1) := by decide +kernel
theorem dX3_dropDeadEnds_8 : decode cX3_dropDeadEnds 8 = .ok (.ifCond .lt 97, 3) := by decide +kernel
theorem dX3_dropDeadEnds_11 : decode cX3_dropDeadEnds 11 = .ok (.iconst 0, 1) := by decide +kernel
theorem dX3_dropDeadEnds_12 : decode cX3_dropDeadEnds 12 = .ok (.istore_n 2, 1) := by decide +kernel
theorem dX3_dropDeadEnds_13 : decode cX3_dropDeadEnds 13 = .ok (.iload_n 2, 1) := by decide +kernel
theorem dX3_dropDeadEnds_14 : decode cX3_dropDeadEnds 14 = .ok (.iconst 3, 1) := by decide +kernel
theorem dX3_dropDeadEnds_15 : decode cX3_dropDeadEnds 15 = .ok (.if_icmp .ge 84, 3) := by decide +kernel
theorem dX3_dropDeadEnds_18 : decode cX3_dropDeadEnds 18 = .ok (.iconst 0, 1) := by decide +kernel
theorem dX3_dropDeadEnds_19 : decode cX3_dropDeadEnds 19 = .ok (.istore_n 3, 1) := by decide +kernel
theorem dX3_dropDeadEnds_20 : decode cX3_dropDeadEnds 20 = .ok (.iconst 0, 1) := by decide +kernel
theorem dX3_dropDeadEnds_21 : decode cX3_dropDeadEnds 21 = .ok (.istore 4, 2) := by decide +kernel
theorem dX3_dropDeadEnds_23 : decode cX3_dropDeadEnds 23 = .ok (.iload 4, 2) := by decide +kernel
theorem dX3_dropDeadEnds_25 : decode cX3_dropDeadEnds 25 = .ok (.bipush 15, 2) := by decide +kernel
theorem dX3_dropDeadEnds_27 : decode cX3_dropDeadEnds 27 = .ok (.if_icmp .ge 52, 3) := by decide +kernel
theorem dX3_dropDeadEnds_30 : decode cX3_dropDeadEnds 30 = .ok (.iload_n 1, 1) := by decide +kernel
theorem dX3_dropDeadEnds_31 : decode cX3_dropDeadEnds 31 = .ok (.aload_n 0, 1) := by decide +kernel
theorem dX3_dropDeadEnds_32 : decode cX3_dropDeadEnds 32 = .ok (.getfield 13, 3) := by decide +kernel
theorem dX3_dropDeadEnds_35 : decode cX3_dropDeadEnds 35 = .ok (.iconst 1, 1) := by decide +kernel
theorem dX3_dropDeadEnds_36 : decode cX3_dropDeadEnds 36 = .ok (.isub, 1) := by decide +kernel
theorem dX3_dropDeadEnds_37 : decode cX3_dropDeadEnds 37 = .ok (.if_icmp .ne 18, 3) := by decide +kernel
theorem dX3_dropDeadEnds_40 : decode cX3_dropDeadEnds 40 = .ok (.aload_n 0, 1) := by decide +kernel
theorem dX3_dropDeadEnds_41 : decode cX3_dropDeadEnds 41 = .ok (.getfield 27, 3) := by decide +kernel
theorem dX3_dropDeadEnds_44 : decode cX3_dropDeadEnds 44 = .ok (.iload 4, 2) := by decide +kernel
theorem dX3_dropDeadEnds_46 : decode cX3_dropDeadEnds 46 = .ok (.invokestatic 86, 3) := by decide +kernel
theorem dX3_dropDeadEnds_49 : decode cX3_dropDeadEnds 49 = .ok (.ifCond .eq 24, 3) := by decide +kernel
theorem dX3_dropDeadEnds_52 : decode cX3_dropDeadEnds 52 = .ok (.goto 14, 3) := by decide +kernel
theorem dX3_dropDeadEnds_55 : decode cX3_dropDeadEnds 55 = .ok (.aload_n 0, 1) := by decide +kernel
theorem dX3_dropDeadEnds_56 : decode cX3_dropDeadEnds 56 = .ok (.iload_n 1, 1) := by decide +kernel
theorem dX3_dropDeadEnds_57 : decode cX3_dropDeadEnds 57 = .ok (.iload_n 2, 1) := by decide +kernel
theorem dX3_dropDeadEnds_58 : decode cX3_dropDeadEnds 58 = .ok (.iload 4, 2) := by decide +kernel
theorem dX3_dropDeadEnds_60 : decode cX3_dropDeadEnds 60 = .ok (.invokevirtual 112, 3) := by decide +kernel
theorem dX3_dropDeadEnds_63 : decode cX3_dropDeadEnds 63 = .ok (.ifCond .eq 10, 3) := by decide +kernel
theorem dX3_dropDeadEnds_66 : decode cX3_dropDeadEnds 66 = .ok (.iload_n 3, 1) := by decide +kernel
theorem dX3_dropDeadEnds_67 : decode cX3_dropDeadEnds 67 = .ok (.iconst 1, 1) := by decide +kernel
theorem dX3_dropDeadEnds_68 : decode cX3_dropDeadEnds 68 = .ok (.iload 4, 2) := by decide +kernel
theorem dX3_dropDeadEnds_70 : decode cX3_dropDeadEnds 70 = .ok (.ishl, 1) := by decide +kernel
theorem dX3_dropDeadEnds_71 : decode cX3_dropDeadEnds 71 = .ok (.ior, 1) := by decide +kernel
theorem dX3_dropDeadEnds_72 : decode cX3_dropDeadEnds 72 = .ok (.istore_n 3, 1) := by decide +kernel
theorem dX3_dropDeadEnds_73 : decode cX3_dropDeadEnds 73 = .ok (.iinc 4 1, 3) := by decide +kernel
theorem dX3_dropDeadEnds_76 : decode cX3_dropDeadEnds 76 = .ok (.goto (-53), 3) := by decide +kernel
theorem dX3_dropDeadEnds_79 : decode cX3_dropDeadEnds 79 = .ok (.aload_n 0, 1) := by decide +kernel
theorem dX3_dropDeadEnds_80 : decode cX3_dropDeadEnds 80 = .ok (.getfield 21, 3) := by decide +kernel
theorem dX3_dropDeadEnds_83 : decode cX3_dropDeadEnds 83 = .ok (.iload_n 1, 1) := by decide +kernel
theorem dX3_dropDeadEnds_84 : decode cX3_dropDeadEnds 84 = .ok (.iconst 3, 1) := by decide +kernel
theorem dX3_dropDeadEnds_85 : decode cX3_dropDeadEnds 85 = .ok (.imul, 1) := by decide +kernel
theorem dX3_dropDeadEnds_86 : decode cX3_dropDeadEnds 86 = .ok (.iload_n 2, 1) := by decide +kernel
theorem dX3_dropDeadEnds_87 : decode cX3_dropDeadEnds 87 = .ok (.iadd, 1) := by decide +kernel
theorem dX3_dropDeadEnds_88 : decode cX3_dropDeadEnds 88 = .ok (.dup2, 1) := by decide +kernel
theorem dX3_dropDeadEnds_89 : decode cX3_dropDeadEnds 89 = .ok (.iaload, 1) := by decide +kernel
theorem dX3_dropDeadEnds_90 : decode cX3_dropDeadEnds 90 = .ok (.iload_n 3, 1) := by decide +kernel
theorem dX3_dropDeadEnds_91 : decode cX3_dropDeadEnds 91 = .ok (.iand, 1) := by decide +kernel
theorem dX3_dropDeadEnds_92 : decode cX3_dropDeadEnds 92 = .ok (.iastore, 1) := by decide +kernel
theorem dX3_dropDeadEnds_93 : decode cX3_dropDeadEnds 93 = .ok (.iinc 2 1, 3) := by decide +kernel
theorem dX3_dropDeadEnds_96 : decode cX3_dropDeadEnds 96 = .ok (.goto (-83), 3) := by decide +kernel
theorem dX3_dropDeadEnds_99 : decode cX3_dropDeadEnds 99 = .ok (.iinc 1 (-1), 3) := by decide +kernel
theorem dX3_dropDeadEnds_102 : decode cX3_dropDeadEnds 102 = .ok (.goto (-95), 3) := by decide +kernel
theorem dX3_dropDeadEnds_105 : decode cX3_dropDeadEnds 105 = .ok (.return_, 1) := by decide +kernel
theorem dX3_goesOn_0 : decode cX3_goesOn 0 = .ok (.aload_n 0, 1) := by decide +kernel
theorem dX3_goesOn_1 : decode cX3_goesOn 1 = .ok (.iload_n 1, 1) := by decide +kernel
theorem dX3_goesOn_2 : decode cX3_goesOn 2 = .ok (.iload_n 2, 1) := by decide +kernel
theorem dX3_goesOn_3 : decode cX3_goesOn 3 = .ok (.iload_n 3, 1) := by decide +kernel
theorem dX3_goesOn_4 : decode cX3_goesOn 4 = .ok (.invokevirtual 115, 3) := by decide +kernel
theorem dX3_goesOn_7 : decode cX3_goesOn 7 = .ok (.ifCond .ne 13, 3) := by decide +kernel
theorem dX3_goesOn_10 : decode cX3_goesOn 10 = .ok (.aload_n 0, 1) := by decide +kernel
theorem dX3_goesOn_11 : decode cX3_goesOn 11 = .ok (.iload_n 1, 1) := by decide +kernel
theorem dX3_goesOn_12 : decode cX3_goesOn 12 = .ok (.iload_n 2, 1) := by decide +kernel
theorem dX3_goesOn_13 : decode cX3_goesOn 13 = .ok (.iload_n 3, 1) := by decide +kernel
theorem dX3_goesOn_14 : decode cX3_goesOn 14 = .ok (.invokevirtual 118, 3) := by decide +kernel
theorem dX3_goesOn_17 : decode cX3_goesOn 17 = .ok (.ifCond .eq 7, 3) := by decide +kernel
theorem dX3_goesOn_20 : decode cX3_goesOn 20 = .ok (.iconst 1, 1) := by decide +kernel
theorem dX3_goesOn_21 : decode cX3_goesOn 21 = .ok (.goto 4, 3) := by decide +kernel
theorem dX3_goesOn_24 : decode cX3_goesOn 24 = .ok (.iconst 0, 1) := by decide +kernel
theorem dX3_goesOn_25 : decode cX3_goesOn 25 = .ok (.ireturn, 1) := by decide +kernel
theorem dX3_goers_0 : decode cX3_goers 0 = .ok (.aload_n 0, 1) := by decide +kernel
theorem dX3_goers_1 : decode cX3_goers 1 = .ok (.getfield 24, 3) := by decide +kernel
theorem dX3_goers_4 : decode cX3_goers 4 = .ok (.iload_n 1, 1) := by decide +kernel
theorem dX3_goers_5 : decode cX3_goers 5 = .ok (.bipush 15, 2) := by decide +kernel
theorem dX3_goers_7 : decode cX3_goers 7 = .ok (.imul, 1) := by decide +kernel
theorem dX3_goers_8 : decode cX3_goers 8 = .ok (.iload_n 3, 1) := by decide +kernel
theorem dX3_goers_9 : decode cX3_goers 9 = .ok (.iadd, 1) := by decide +kernel
theorem dX3_goers_10 : decode cX3_goers 10 = .ok (.iaload, 1) := by decide +kernel
theorem dX3_goers_11 : decode cX3_goers 11 = .ok (.aload_n 0, 1) := by decide +kernel
theorem dX3_goers_12 : decode cX3_goers 12 = .ok (.getfield 21, 3) := by decide +kernel
theorem dX3_goers_15 : decode cX3_goers 15 = .ok (.iload_n 1, 1) := by decide +kernel
theorem dX3_goers_16 : decode cX3_goers 16 = .ok (.iconst 1, 1) := by decide +kernel
theorem dX3_goers_17 : decode cX3_goers 17 = .ok (.iadd, 1) := by decide +kernel
theorem dX3_goers_18 : decode cX3_goers 18 = .ok (.iconst 3, 1) := by decide +kernel
theorem dX3_goers_19 : decode cX3_goers 19 = .ok (.imul, 1) := by decide +kernel
theorem dX3_goers_20 : decode cX3_goers 20 = .ok (.iload_n 2, 1) := by decide +kernel
theorem dX3_goers_21 : decode cX3_goers 21 = .ok (.iadd, 1) := by decide +kernel
theorem dX3_goers_22 : decode cX3_goers 22 = .ok (.iaload, 1) := by decide +kernel
theorem dX3_goers_23 : decode cX3_goers 23 = .ok (.iand, 1) := by decide +kernel
theorem dX3_goers_24 : decode cX3_goers 24 = .ok (.ireturn, 1) := by decide +kernel
theorem dX3_mayStay_0 : decode cX3_mayStay 0 = .ok (.iload_n 2, 1) := by decide +kernel
theorem dX3_mayStay_1 : decode cX3_mayStay 1 = .ok (.iconst 2, 1) := by decide +kernel
theorem dX3_mayStay_2 : decode cX3_mayStay 2 = .ok (.if_icmp .ge 28, 3) := by decide +kernel
theorem dX3_mayStay_5 : decode cX3_mayStay 5 = .ok (.aload_n 0, 1) := by decide +kernel
theorem dX3_mayStay_6 : decode cX3_mayStay 6 = .ok (.getfield 21, 3) := by decide +kernel
theorem dX3_mayStay_9 : decode cX3_mayStay 9 = .ok (.iload_n 1, 1) := by decide +kernel
theorem dX3_mayStay_10 : decode cX3_mayStay 10 = .ok (.iconst 1, 1) := by decide +kernel
theorem dX3_mayStay_11 : decode cX3_mayStay 11 = .ok (.iadd, 1) := by decide +kernel
theorem dX3_mayStay_12 : decode cX3_mayStay 12 = .ok (.iconst 3, 1) := by decide +kernel
theorem dX3_mayStay_13 : decode cX3_mayStay 13 = .ok (.imul, 1) := by decide +kernel
theorem dX3_mayStay_14 : decode cX3_mayStay 14 = .ok (.iload_n 2, 1) := by decide +kernel
theorem dX3_mayStay_15 : decode cX3_mayStay 15 = .ok (.iadd, 1) := by decide +kernel
theorem dX3_mayStay_16 : decode cX3_mayStay 16 = .ok (.iconst 1, 1) := by decide +kernel
theorem dX3_mayStay_17 : decode cX3_mayStay 17 = .ok (.iadd, 1) := by decide +kernel
theorem dX3_mayStay_18 : decode cX3_mayStay 18 = .ok (.iaload, 1) := by decide +kernel
theorem dX3_mayStay_19 : decode cX3_mayStay 19 = .ok (.iload_n 3, 1) := by decide +kernel
theorem dX3_mayStay_20 : decode cX3_mayStay 20 = .ok (.invokestatic 86, 3) := by decide +kernel
theorem dX3_mayStay_23 : decode cX3_mayStay 23 = .ok (.ifCond .eq 7, 3) := by decide +kernel
theorem dX3_mayStay_26 : decode cX3_mayStay 26 = .ok (.iconst 1, 1) := by decide +kernel
theorem dX3_mayStay_27 : decode cX3_mayStay 27 = .ok (.goto 4, 3) := by decide +kernel
theorem dX3_mayStay_30 : decode cX3_mayStay 30 = .ok (.iconst 0, 1) := by decide +kernel
theorem dX3_mayStay_31 : decode cX3_mayStay 31 = .ok (.ireturn, 1) := by decide +kernel
theorem dX3_chooseCamps_0 : decode cX3_chooseCamps 0 = .ok (.bipush 14, 2) := by decide +kernel
theorem dX3_chooseCamps_2 : decode cX3_chooseCamps 2 = .ok (.istore_n 1, 1) := by decide +kernel
theorem dX3_chooseCamps_3 : decode cX3_chooseCamps 3 = .ok (.iconst 0, 1) := by decide +kernel
theorem dX3_chooseCamps_4 : decode cX3_chooseCamps 4 = .ok (.istore_n 2, 1) := by decide +kernel
theorem dX3_chooseCamps_5 : decode cX3_chooseCamps 5 = .ok (.iconst 0, 1) := by decide +kernel
theorem dX3_chooseCamps_6 : decode cX3_chooseCamps 6 = .ok (.istore_n 3, 1) := by decide +kernel
theorem dX3_chooseCamps_7 : decode cX3_chooseCamps 7 = .ok (.iload_n 3, 1) := by decide +kernel
theorem dX3_chooseCamps_8 : decode cX3_chooseCamps 8 = .ok (.aload_n 0, 1) := by decide +kernel
theorem dX3_chooseCamps_9 : decode cX3_chooseCamps 9 = .ok (.getfield 13, 3) := by decide +kernel
theorem dX3_chooseCamps_12 : decode cX3_chooseCamps 12 = .ok (.iconst 1, 1) := by decide +kernel
theorem dX3_chooseCamps_13 : decode cX3_chooseCamps 13 = .ok (.isub, 1) := by decide +kernel
theorem dX3_chooseCamps_14 : decode cX3_chooseCamps 14 = .ok (.if_icmp .ge 53, 3) := by decide +kernel
theorem dX3_chooseCamps_17 : decode cX3_chooseCamps 17 = .ok (.aload_n 0, 1) := by decide +kernel
theorem dX3_chooseCamps_18 : decode cX3_chooseCamps 18 = .ok (.iload_n 3, 1) := by decide +kernel
theorem dX3_chooseCamps_19 : decode cX3_chooseCamps 19 = .ok (.iload_n 2, 1) := by decide +kernel
theorem dX3_chooseCamps_20 : decode cX3_chooseCamps 20 = .ok (.iload_n 1, 1) := by decide +kernel
theorem dX3_chooseCamps_21 : decode cX3_chooseCamps 21 = .ok (.invokevirtual 115, 3) := by decide +kernel
theorem dX3_chooseCamps_24 : decode cX3_chooseCamps 24 = .ok (.invokestatic 121, 3) := by decide +kernel
theorem dX3_chooseCamps_27 : decode cX3_chooseCamps 27 = .ok (.istore 4, 2) := by decide +kernel
theorem dX3_chooseCamps_29 : decode cX3_chooseCamps 29 = .ok (.aload_n 0, 1) := by decide +kernel
theorem dX3_chooseCamps_30 : decode cX3_chooseCamps 30 = .ok (.iload_n 3, 1) := by decide +kernel
theorem dX3_chooseCamps_31 : decode cX3_chooseCamps 31 = .ok (.iload_n 2, 1) := by decide +kernel
theorem dX3_chooseCamps_32 : decode cX3_chooseCamps 32 = .ok (.iload_n 1, 1) := by decide +kernel
theorem dX3_chooseCamps_33 : decode cX3_chooseCamps 33 = .ok (.invokevirtual 118, 3) := by decide +kernel
theorem dX3_chooseCamps_36 : decode cX3_chooseCamps 36 = .ok (.ifCond .eq 15, 3) := by decide +kernel
theorem dX3_chooseCamps_39 : decode cX3_chooseCamps 39 = .ok (.iload_n 1, 1) := by decide +kernel
theorem dX3_chooseCamps_40 : decode cX3_chooseCamps 40 = .ok (.iload 4, 2) := by decide +kernel
theorem dX3_chooseCamps_42 : decode cX3_chooseCamps 42 = .ok (.if_icmp .ge 9, 3) := by decide +kernel
theorem dX3_chooseCamps_45 : decode cX3_chooseCamps 45 = .ok (.iinc 2 1, 3) := by decide +kernel
theorem dX3_chooseCamps_48 : decode cX3_chooseCamps 48 = .ok (.goto 6, 3) := by decide +kernel
theorem dX3_chooseCamps_51 : decode cX3_chooseCamps 51 = .ok (.iload 4, 2) := by decide +kernel
theorem dX3_chooseCamps_53 : decode cX3_chooseCamps 53 = .ok (.istore_n 1, 1) := by decide +kernel
theorem dX3_chooseCamps_54 : decode cX3_chooseCamps 54 = .ok (.aload_n 0, 1) := by decide +kernel
theorem dX3_chooseCamps_55 : decode cX3_chooseCamps 55 = .ok (.getfield 17, 3) := by decide +kernel
theorem dX3_chooseCamps_58 : decode cX3_chooseCamps 58 = .ok (.iload_n 3, 1) := by decide +kernel
theorem dX3_chooseCamps_59 : decode cX3_chooseCamps 59 = .ok (.iload_n 1, 1) := by decide +kernel
theorem dX3_chooseCamps_60 : decode cX3_chooseCamps 60 = .ok (.iastore, 1) := by decide +kernel
theorem dX3_chooseCamps_61 : decode cX3_chooseCamps 61 = .ok (.iinc 3 1, 3) := by decide +kernel
theorem dX3_chooseCamps_64 : decode cX3_chooseCamps 64 = .ok (.goto (-57), 3) := by decide +kernel
theorem dX3_chooseCamps_67 : decode cX3_chooseCamps 67 = .ok (.return_, 1) := by decide +kernel
theorem dX3_lowest_0 : decode cX3_lowest 0 = .ok (.iconst 0, 1) := by decide +kernel
theorem dX3_lowest_1 : decode cX3_lowest 1 = .ok (.istore_n 1, 1) := by decide +kernel
theorem dX3_lowest_2 : decode cX3_lowest 2 = .ok (.iload_n 1, 1) := by decide +kernel
theorem dX3_lowest_3 : decode cX3_lowest 3 = .ok (.bipush 14, 2) := by decide +kernel
theorem dX3_lowest_5 : decode cX3_lowest 5 = .ok (.if_icmp .ge 19, 3) := by decide +kernel
theorem dX3_lowest_8 : decode cX3_lowest 8 = .ok (.iload_n 0, 1) := by decide +kernel
theorem dX3_lowest_9 : decode cX3_lowest 9 = .ok (.iload_n 1, 1) := by decide +kernel
theorem dX3_lowest_10 : decode cX3_lowest 10 = .ok (.invokestatic 86, 3) := by decide +kernel
theorem dX3_lowest_13 : decode cX3_lowest 13 = .ok (.ifCond .eq 5, 3) := by decide +kernel
theorem dX3_lowest_16 : decode cX3_lowest 16 = .ok (.iload_n 1, 1) := by decide +kernel
theorem dX3_lowest_17 : decode cX3_lowest 17 = .ok (.ireturn, 1) := by decide +kernel
theorem dX3_lowest_18 : decode cX3_lowest 18 = .ok (.iinc 1 1, 3) := by decide +kernel
theorem dX3_lowest_21 : decode cX3_lowest 21 = .ok (.goto (-19), 3) := by decide +kernel
theorem dX3_lowest_24 : decode cX3_lowest 24 = .ok (.bipush 14, 2) := by decide +kernel
