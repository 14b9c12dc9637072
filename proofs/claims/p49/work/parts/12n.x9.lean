section
/-- PaceBorderModel.costOf(III)I: number 227, loop heads [5] -/
noncomputable def bl_X9_costOf_0 : am_B := (0, [(.aload_n 0, []), (.getfield 210, [9, 22, 0]), (.ifCond .ne 11, [2, 1])], none)
noncomputable def bl_X9_costOf_1 : am_B := (7, [(.aload_n 0, []), (.iload_n 1, []), (.iload_n 2, []), (.iload_n 3, []), (.invokevirtual 186, [218, 3, 9, 1]), (.ireturn, [0])], none)
noncomputable def bl_X9_costOf_2 : am_B := (15, [(.aload_n 0, []), (.getfield 210, [9, 22, 0]), (.iconst 1, []), (.if_icmp .ne 16, [4, 3])], none)
noncomputable def bl_X9_costOf_3 : am_B := (23, [(.aload_n 0, []), (.aload_n 0, []), (.getfield 213, [9, 23, 0]), (.iload_n 2, []), (.iload_n 1, []), (.iload_n 3, []), (.iadd, []), (.invokevirtual 207, [225, 3, 9, 1]), (.ireturn, [0])], none)
noncomputable def bl_X9_costOf_4 : am_B := (36, [(.iconst 0, []), (.istore 4, []), (.iconst 0, []), (.istore 5, [])], some 1005)
noncomputable def bl_X9_costOf_5 : am_B := (42, [(.iload 5, []), (.aload_n 0, []), (.getfield 136, [9, 1, 0]), (.if_icmp .ge 45, [1008, 6])], none)
noncomputable def bl_X9_costOf_6 : am_B := (51, [(.iload_n 2, []), (.invokestatic 153, [199, 1, 0, 1]), (.ifCond .eq 38, [1008, 7])], none)
noncomputable def bl_X9_costOf_7 : am_B := (58, [(.iload 4, []), (.aload_n 0, []), (.iload 5, []), (.aload_n 0, []), (.getfield 213, [9, 23, 0]), (.iload_n 1, []), (.iload_n 3, []), (.iadd, []), (.aload_n 0, []), (.getfield 7, [9, 0, 2]), (.iconst 2, []), (.aload_n 0, []), (.getfield 213, [9, 23, 0]), (.iadd, []), (.iaload, []), (.invokevirtual 156, [198, 4, 9, 1]), (.isub, []), (.istore 4, []), (.iinc 5 1, []), (.goto (-48), [1005])], none)
noncomputable def bl_X9_costOf_8 : am_B := (93, [(.iload 4, []), (.ireturn, [0])], none)
noncomputable def bk_X9_costOf : List am_B := [bl_X9_costOf_0, bl_X9_costOf_1, bl_X9_costOf_2, bl_X9_costOf_3, bl_X9_costOf_4, bl_X9_costOf_5, bl_X9_costOf_6, bl_X9_costOf_7, bl_X9_costOf_8]
noncomputable def ck_X9_costOf : List (List (Nat × List Nat)) := [[(1, []), (3, [1089]), (3, [])],
  [(1, []), (1, []), (1, []), (1, []), (3, [1358, 1360, 55, 91]), (1, [])],
  [(1, []), (3, [1089]), (1, []), (3, [])],
  [(1, []), (1, []), (3, [1090]), (1, []), (1, []), (1, []), (1, []), (3, [1383, 1385, 58, 91]), (1, [])],
  [(1, []), (2, []), (1, []), (2, [])],
  [(2, []), (1, []), (3, [1068]), (3, [])],
  [(1, []), (3, [1314, 1315, 91]), (3, [])],
  [(2, []), (1, []), (2, []), (1, []), (3, [1090]), (1, []), (1, []), (1, []), (1, []), (3, [1067]), (1, []), (1, []), (3, [1090]), (1, []), (1, []), (3, [1287, 1289, 49, 91]), (1, []), (2, []), (3, []), (3, [])],
  [(2, []), (1, [])]]
theorem ok_X9_costOf : am_ck 227 bk_X9_costOf ck_X9_costOf = true := am_ckD (by decide +kernel)
theorem ml_X9_costOf : am_ml 227 = 6 := by decide +kernel
theorem pn_X9_costOf : plainName (am_y 227).cls = true := by decide +kernel
/-- PaceBorderModel.valueBy(III)I: number 228, loop heads [] -/
noncomputable def bl_X9_valueBy_0 : am_B := (0, [(.aload_n 0, []), (.getfield 7, [9, 0, 2]), (.iconst 0, []), (.iaload, []), (.iload_n 1, []), (.iadd, []), (.istore 4, []), (.aload_n 0, []), (.iload_n 2, []), (.iload 4, []), (.iload_n 3, []), (.invokevirtual 190, [219, 3, 9, 1]), (.ifCond .ne 6, [2, 1])], none)
noncomputable def bl_X9_valueBy_1 : am_B := (21, [(.ldc 216, [1048576]), (.ireturn, [0])], none)
noncomputable def bl_X9_valueBy_2 : am_B := (24, [(.aload_n 0, []), (.getfield 44, [9, 21, 2]), (.bipush 13, []), (.iload_n 1, []), (.iconst 1, []), (.iadd, []), (.imul, []), (.iload_n 2, []), (.iadd, []), (.iload_n 3, []), (.iadd, []), (.iaload, []), (.istore 5, []), (.iload 5, []), (.ldc 216, [1048576]), (.if_icmp .lt 8, [4, 3])], none)
noncomputable def bl_X9_valueBy_3 : am_B := (48, [(.ldc 216, [1048576]), (.goto 14, [5])], none)
noncomputable def bl_X9_valueBy_4 : am_B := (53, [(.aload_n 0, []), (.iload_n 2, []), (.iload 4, []), (.iload_n 3, []), (.invokevirtual 217, [227, 3, 9, 1]), (.iload 5, []), (.iadd, [])], some 5)
noncomputable def bl_X9_valueBy_5 : am_B := (64, [(.ireturn, [0])], none)
noncomputable def bk_X9_valueBy : List am_B := [bl_X9_valueBy_0, bl_X9_valueBy_1, bl_X9_valueBy_2, bl_X9_valueBy_3, bl_X9_valueBy_4, bl_X9_valueBy_5]
noncomputable def ck_X9_valueBy : List (List (Nat × List Nat)) := [[(1, []), (3, [1067]), (1, []), (1, []), (1, []), (1, []), (2, []), (1, []), (1, []), (2, []), (1, []), (3, [1354, 1356, 54, 91]), (3, [])],
  [(2, [1419]), (1, [])],
  [(1, []), (3, [1088]), (2, []), (1, []), (1, []), (1, []), (1, []), (1, []), (1, []), (1, []), (1, []), (1, []), (2, []), (2, []), (2, [1419]), (3, [])],
  [(2, [1419]), (3, [])],
  [(1, []), (1, []), (2, []), (1, []), (3, [1424, 1426, 65, 91]), (2, []), (1, [])],
  [(1, [])]]
theorem ok_X9_valueBy : am_ck 228 bk_X9_valueBy ck_X9_valueBy = true := am_ckD (by decide +kernel)
theorem ml_X9_valueBy : am_ml 228 = 6 := by decide +kernel
theorem pn_X9_valueBy : plainName (am_y 228).cls = true := by decide +kernel
/-- PaceBorderModel.layValues(II)V: number 229, loop heads [1, 8, 10, 12] -/
noncomputable def bl_X9_layValues_0 : am_B := (0, [(.iconst 0, []), (.istore_n 3, [])], some 1001)
noncomputable def bl_X9_layValues_1 : am_B := (2, [(.iload_n 3, []), (.aload_n 0, []), (.getfield 136, [9, 1, 0]), (.if_icmp .gt 35, [1007, 2])], none)
noncomputable def bl_X9_layValues_2 : am_B := (10, [(.aload_n 0, []), (.getfield 44, [9, 21, 2]), (.bipush 13, []), (.iload_n 1, []), (.imul, []), (.iload_n 3, []), (.iadd, []), (.iload_n 2, []), (.ifCond .lt 8, [4, 3])], none)
noncomputable def bl_X9_layValues_3 : am_B := (24, [(.iload_n 3, []), (.iload_n 2, []), (.if_icmp .ne 7, [5, 4])], none)
noncomputable def bl_X9_layValues_4 : am_B := (29, [(.iconst 0, []), (.goto 5, [6])], none)
noncomputable def bl_X9_layValues_5 : am_B := (33, [(.ldc 216, [1048576])], some 6)
noncomputable def bl_X9_layValues_6 : am_B := (35, [(.iastore, []), (.iinc 3 1, []), (.goto (-37), [1001])], none)
noncomputable def bl_X9_layValues_7 : am_B := (42, [(.iload_n 1, []), (.iconst 1, []), (.isub, []), (.istore_n 3, [])], some 1008)
noncomputable def bl_X9_layValues_8 : am_B := (46, [(.iload_n 3, []), (.ifCond .lt 87, [1019, 9])], none)
noncomputable def bl_X9_layValues_9 : am_B := (50, [(.iconst 0, []), (.istore 4, [])], some 1010)
noncomputable def bl_X9_layValues_10 : am_B := (53, [(.iload 4, []), (.aload_n 0, []), (.getfield 136, [9, 1, 0]), (.if_icmp .gt 69, [1018, 11])], none)
noncomputable def bl_X9_layValues_11 : am_B := (62, [(.ldc 216, [1048576]), (.istore 5, []), (.iconst (-1), []), (.istore 6, [])], some 1012)
noncomputable def bl_X9_layValues_12 : am_B := (69, [(.iload 6, []), (.iconst 2, []), (.if_icmp .ge 36, [1017, 13])], none)
noncomputable def bl_X9_layValues_13 : am_B := (75, [(.aload_n 0, []), (.iload_n 3, []), (.iload 4, []), (.iload 6, []), (.invokevirtual 220, [228, 3, 9, 1]), (.istore 7, []), (.iload 7, []), (.iload 5, []), (.if_icmp .ge 8, [15, 14])], none)
noncomputable def bl_X9_layValues_14 : am_B := (93, [(.iload 7, []), (.goto 5, [16])], none)
noncomputable def bl_X9_layValues_15 : am_B := (98, [(.iload 5, [])], some 16)
noncomputable def bl_X9_layValues_16 : am_B := (100, [(.istore 5, []), (.iinc 6 1, []), (.goto (-36), [1012])], none)
noncomputable def bl_X9_layValues_17 : am_B := (108, [(.aload_n 0, []), (.getfield 44, [9, 21, 2]), (.bipush 13, []), (.iload_n 3, []), (.imul, []), (.iload 4, []), (.iadd, []), (.iload 5, []), (.iastore, []), (.iinc 4 1, []), (.goto (-72), [1010])], none)
noncomputable def bl_X9_layValues_18 : am_B := (128, [(.iinc 3 (-1), []), (.goto (-85), [1008])], none)
noncomputable def bl_X9_layValues_19 : am_B := (134, [(.return_, [])], none)
noncomputable def bk_X9_layValues : List am_B := [bl_X9_layValues_0, bl_X9_layValues_1, bl_X9_layValues_2, bl_X9_layValues_3, bl_X9_layValues_4, bl_X9_layValues_5, bl_X9_layValues_6, bl_X9_layValues_7, bl_X9_layValues_8, bl_X9_layValues_9, bl_X9_layValues_10, bl_X9_layValues_11, bl_X9_layValues_12, bl_X9_layValues_13, bl_X9_layValues_14, bl_X9_layValues_15, bl_X9_layValues_16, bl_X9_layValues_17, bl_X9_layValues_18, bl_X9_layValues_19]
noncomputable def ck_X9_layValues : List (List (Nat × List Nat)) := [[(1, []), (1, [])],
  [(1, []), (1, []), (3, [1068]), (3, [])],
  [(1, []), (3, [1088]), (2, []), (1, []), (1, []), (1, []), (1, []), (1, []), (3, [])],
  [(1, []), (1, []), (3, [])],
  [(1, []), (3, [])],
  [(2, [1419])],
  [(1, []), (3, []), (3, [])],
  [(1, []), (1, []), (1, []), (1, [])],
  [(1, []), (3, [])],
  [(1, []), (2, [])],
  [(2, []), (1, []), (3, [1068]), (3, [])],
  [(2, [1419]), (2, []), (1, []), (2, [])],
  [(2, []), (1, []), (3, [])],
  [(1, []), (1, []), (2, []), (2, []), (3, [1420, 1422, 64, 91]), (2, []), (2, []), (2, []), (3, [])],
  [(2, []), (3, [])],
  [(2, [])],
  [(2, []), (3, []), (3, [])],
  [(1, []), (3, [1088]), (2, []), (1, []), (1, []), (2, []), (1, []), (2, []), (1, []), (3, []), (3, [])],
  [(3, []), (3, [])],
  [(1, [])]]
theorem ok_X9_layValues : am_ck 229 bk_X9_layValues ck_X9_layValues = true := am_ckD (by decide +kernel)
theorem ml_X9_layValues : am_ml 229 = 8 := by decide +kernel
theorem pn_X9_layValues : plainName (am_y 229).cls = true := by decide +kernel
/-- PaceBorderModel.toRow(II)V: number 230, loop heads [1, 3] -/
noncomputable def bl_X9_toRow_0 : am_B := (0, [(.aload_n 0, []), (.getfield 7, [9, 0, 2]), (.iconst 1, []), (.iaload, []), (.istore_n 3, []), (.aload_n 0, []), (.iload_n 1, []), (.iload_n 2, []), (.invokevirtual 83, [175, 2, 9, 0]), (.iconst 0, []), (.istore 4, [])], some 1001)
noncomputable def bl_X9_toRow_1 : am_B := (16, [(.iload 4, []), (.iload_n 2, []), (.if_icmp .ge 61, [1006, 2])], none)
noncomputable def bl_X9_toRow_2 : am_B := (22, [(.iconst (-1), []), (.istore 5, [])], some 1003)
noncomputable def bl_X9_toRow_3 : am_B := (25, [(.aload_n 0, []), (.iload 4, []), (.iload_n 3, []), (.iload 5, []), (.invokevirtual 220, [228, 3, 9, 1]), (.aload_n 0, []), (.getfield 44, [9, 21, 2]), (.bipush 13, []), (.iload 4, []), (.imul, []), (.iload_n 3, []), (.iadd, []), (.iaload, []), (.if_icmp .eq 9, [1005, 4])], none)
noncomputable def bl_X9_toRow_4 : am_B := (49, [(.iinc 5 1, []), (.goto (-27), [1003])], none)
noncomputable def bl_X9_toRow_5 : am_B := (55, [(.aload_n 0, []), (.getfield 22, [9, 5, 2]), (.bipush 40, []), (.iload_n 1, []), (.imul, []), (.iload 4, []), (.iadd, []), (.iload 5, []), (.iastore, []), (.iload_n 3, []), (.iload 5, []), (.iadd, []), (.istore_n 3, []), (.iinc 4 1, []), (.goto (-61), [1001])], none)
noncomputable def bl_X9_toRow_6 : am_B := (80, [(.return_, [])], none)
noncomputable def bk_X9_toRow : List am_B := [bl_X9_toRow_0, bl_X9_toRow_1, bl_X9_toRow_2, bl_X9_toRow_3, bl_X9_toRow_4, bl_X9_toRow_5, bl_X9_toRow_6]
noncomputable def ck_X9_toRow : List (List (Nat × List Nat)) := [[(1, []), (3, [1067]), (1, []), (1, []), (1, []), (1, []), (1, []), (1, []), (3, [1176, 1178, 34, 91]), (1, []), (2, [])],
  [(2, []), (1, []), (3, [])],
  [(1, []), (2, [])],
  [(1, []), (2, []), (1, []), (2, []), (3, [1420, 1422, 64, 91]), (1, []), (3, [1088]), (2, []), (2, []), (1, []), (1, []), (1, []), (1, []), (3, [])],
  [(3, []), (3, [])],
  [(1, []), (3, [1072]), (2, []), (1, []), (1, []), (2, []), (1, []), (2, []), (1, []), (1, []), (2, []), (1, []), (1, []), (3, []), (3, [])],
  [(1, [])]]
theorem ok_X9_toRow : am_ck 230 bk_X9_toRow ck_X9_toRow = true := am_ckD (by decide +kernel)
theorem ml_X9_toRow : am_ml 230 = 6 := by decide +kernel
theorem pn_X9_toRow : plainName (am_y 230).cls = true := by decide +kernel
/-- PaceBorderModel.soonest(II)I: number 231, loop heads [6] -/
noncomputable def bl_X9_soonest_0 : am_B := (0, [(.aload_n 0, []), (.iload_n 1, []), (.invokevirtual 223, [217, 1, 9, 1]), (.ifCond .eq 10, [2, 1])], none)
noncomputable def bl_X9_soonest_1 : am_B := (8, [(.iload_n 2, []), (.invokestatic 75, [172, 1, 0, 1]), (.ifCond .ne 5, [3, 2])], none)
noncomputable def bl_X9_soonest_2 : am_B := (15, [(.iconst (-1), []), (.ireturn, [0])], none)
noncomputable def bl_X9_soonest_3 : am_B := (17, [(.aload_n 0, []), (.getfield 136, [9, 1, 0]), (.ifCond .ne 6, [5, 4])], none)
noncomputable def bl_X9_soonest_4 : am_B := (24, [(.bipush (-4), []), (.ireturn, [0])], none)
noncomputable def bl_X9_soonest_5 : am_B := (27, [(.iconst 0, []), (.istore_n 3, [])], some 1006)
noncomputable def bl_X9_soonest_6 : am_B := (29, [(.iload_n 3, []), (.bipush 20, []), (.if_icmp .gt 35, [1010, 7])], none)
noncomputable def bl_X9_soonest_7 : am_B := (35, [(.aload_n 0, []), (.iload_n 3, []), (.invokevirtual 226, [232, 1, 9, 1]), (.iload_n 1, []), (.invokestatic 229, [169, 2, 0, 1]), (.ifCond .eq 17, [9, 1008])], none)
noncomputable def bl_X9_soonest_8 : am_B := (47, [(.aload_n 0, []), (.iload_n 3, []), (.iload_n 1, []), (.invokevirtual 232, [233, 2, 9, 0]), (.aload_n 0, []), (.iload_n 2, []), (.iload_n 3, []), (.invokevirtual 235, [234, 2, 9, 0]), (.iload_n 3, []), (.ireturn, [0])], none)
noncomputable def bl_X9_soonest_9 : am_B := (61, [(.iinc 3 1, []), (.goto (-35), [1006])], none)
noncomputable def bl_X9_soonest_10 : am_B := (67, [(.bipush (-9), []), (.ireturn, [0])], none)
noncomputable def bk_X9_soonest : List am_B := [bl_X9_soonest_0, bl_X9_soonest_1, bl_X9_soonest_2, bl_X9_soonest_3, bl_X9_soonest_4, bl_X9_soonest_5, bl_X9_soonest_6, bl_X9_soonest_7, bl_X9_soonest_8, bl_X9_soonest_9, bl_X9_soonest_10]
noncomputable def ck_X9_soonest : List (List (Nat × List Nat)) := [[(1, []), (1, []), (3, [1391, 1393, 59, 91]), (3, [])],
  [(1, []), (3, [1165, 1166, 91]), (3, [])],
  [(1, []), (1, [])],
  [(1, []), (3, [1068]), (3, [])],
  [(2, []), (1, [])],
  [(1, []), (1, [])],
  [(1, []), (2, []), (3, [])],
  [(1, []), (1, []), (3, [1395, 1397, 60, 91]), (1, []), (3, [1399, 1400, 91]), (3, [])],
  [(1, []), (1, []), (1, []), (3, [1402, 1404, 61, 91]), (1, []), (1, []), (1, []), (3, [1406, 1408, 62, 91]), (1, []), (1, [])],
  [(3, []), (3, [])],
  [(2, []), (1, [])]]
theorem ok_X9_soonest : am_ck 231 bk_X9_soonest ck_X9_soonest = true := am_ckD (by decide +kernel)
theorem ml_X9_soonest : am_ml 231 = 4 := by decide +kernel
theorem pn_X9_soonest : plainName (am_y 231).cls = true := by decide +kernel
/-- PaceBorderModel.reachIn(I)I: number 232, loop heads [1, 3, 5] -/
noncomputable def bl_X9_reachIn_0 : am_B := (0, [(.iconst 1, []), (.aload_n 0, []), (.getfield 7, [9, 0, 2]), (.iconst 1, []), (.iaload, []), (.ishl, []), (.istore_n 2, []), (.iconst 0, []), (.istore_n 3, [])], some 1001)
noncomputable def bl_X9_reachIn_1 : am_B := (11, [(.iload_n 3, []), (.iload_n 1, []), (.if_icmp .ge 92, [1013, 2])], none)
noncomputable def bl_X9_reachIn_2 : am_B := (16, [(.iconst 0, []), (.istore 4, []), (.iconst 0, []), (.istore 5, [])], some 1003)
noncomputable def bl_X9_reachIn_3 : am_B := (22, [(.iload 5, []), (.aload_n 0, []), (.getfield 136, [9, 1, 0]), (.if_icmp .gt 68, [1012, 4])], none)
noncomputable def bl_X9_reachIn_4 : am_B := (31, [(.iconst (-1), []), (.istore 6, [])], some 1005)
noncomputable def bl_X9_reachIn_5 : am_B := (34, [(.iload 6, []), (.iconst 2, []), (.if_icmp .ge 53, [1011, 6])], none)
noncomputable def bl_X9_reachIn_6 : am_B := (40, [(.iload 4, []), (.iload_n 2, []), (.iload 5, []), (.invokestatic 229, [169, 2, 0, 1]), (.ifCond .eq 32, [9, 7])], none)
noncomputable def bl_X9_reachIn_7 : am_B := (51, [(.aload_n 0, []), (.iload 5, []), (.aload_n 0, []), (.getfield 7, [9, 0, 2]), (.iconst 0, []), (.iaload, []), (.iload_n 3, []), (.iadd, []), (.iload 6, []), (.invokevirtual 190, [219, 3, 9, 1]), (.ifCond .eq 13, [9, 8])], none)
noncomputable def bl_X9_reachIn_8 : am_B := (70, [(.iconst 1, []), (.iload 5, []), (.iload 6, []), (.iadd, []), (.ishl, []), (.goto 4, [10])], none)
noncomputable def bl_X9_reachIn_9 : am_B := (80, [(.iconst 0, [])], some 10)
noncomputable def bl_X9_reachIn_10 : am_B := (81, [(.ior, []), (.istore 4, []), (.iinc 6 1, []), (.goto (-53), [1005])], none)
noncomputable def bl_X9_reachIn_11 : am_B := (90, [(.iinc 5 1, []), (.goto (-71), [1003])], none)
noncomputable def bl_X9_reachIn_12 : am_B := (96, [(.iload 4, []), (.istore_n 2, []), (.iinc 3 1, []), (.goto (-91), [1001])], none)
noncomputable def bl_X9_reachIn_13 : am_B := (105, [(.iload_n 2, []), (.ireturn, [0])], none)
noncomputable def bk_X9_reachIn : List am_B := [bl_X9_reachIn_0, bl_X9_reachIn_1, bl_X9_reachIn_2, bl_X9_reachIn_3, bl_X9_reachIn_4, bl_X9_reachIn_5, bl_X9_reachIn_6, bl_X9_reachIn_7, bl_X9_reachIn_8, bl_X9_reachIn_9, bl_X9_reachIn_10, bl_X9_reachIn_11, bl_X9_reachIn_12, bl_X9_reachIn_13]
noncomputable def ck_X9_reachIn : List (List (Nat × List Nat)) := [[(1, []), (1, []), (3, [1067]), (1, []), (1, []), (1, []), (1, []), (1, []), (1, [])],
  [(1, []), (1, []), (3, [])],
  [(1, []), (2, []), (1, []), (2, [])],
  [(2, []), (1, []), (3, [1068]), (3, [])],
  [(1, []), (2, [])],
  [(2, []), (1, []), (3, [])],
  [(2, []), (1, []), (2, []), (3, [1399, 1400, 91]), (3, [])],
  [(1, []), (2, []), (1, []), (3, [1067]), (1, []), (1, []), (1, []), (1, []), (2, []), (3, [1354, 1356, 54, 91]), (3, [])],
  [(1, []), (2, []), (2, []), (1, []), (1, []), (3, [])],
  [(1, [])],
  [(1, []), (2, []), (3, []), (3, [])],
  [(3, []), (3, [])],
  [(2, []), (1, []), (3, []), (3, [])],
  [(1, []), (1, [])]]
theorem ok_X9_reachIn : am_ck 232 bk_X9_reachIn ck_X9_reachIn = true := am_ckD (by decide +kernel)
theorem ml_X9_reachIn : am_ml 232 = 7 := by decide +kernel
theorem pn_X9_reachIn : plainName (am_y 232).cls = true := by decide +kernel
/-- PaceBorderModel.layWays(II)V: number 233, loop heads [1, 7, 9, 11] -/
noncomputable def bl_X9_layWays_0 : am_B := (0, [(.iconst 0, []), (.istore_n 3, [])], some 1001)
noncomputable def bl_X9_layWays_1 : am_B := (2, [(.iload_n 3, []), (.aload_n 0, []), (.getfield 136, [9, 1, 0]), (.if_icmp .gt 30, [1006, 2])], none)
noncomputable def bl_X9_layWays_2 : am_B := (10, [(.aload_n 0, []), (.getfield 47, [9, 24, 2]), (.bipush 13, []), (.iload_n 1, []), (.imul, []), (.iload_n 3, []), (.iadd, []), (.iload_n 3, []), (.iload_n 2, []), (.if_icmp .ne 7, [4, 3])], none)
noncomputable def bl_X9_layWays_3 : am_B := (25, [(.lconst 1, []), (.goto 4, [5])], none)
noncomputable def bl_X9_layWays_4 : am_B := (29, [(.lconst 0, [])], some 5)
noncomputable def bl_X9_layWays_5 : am_B := (30, [(.lastore, []), (.iinc 3 1, []), (.goto (-32), [1001])], none)
noncomputable def bl_X9_layWays_6 : am_B := (37, [(.iload_n 1, []), (.iconst 1, []), (.isub, []), (.istore_n 3, [])], some 1007)
noncomputable def bl_X9_layWays_7 : am_B := (41, [(.iload_n 3, []), (.ifCond .lt 104, [1018, 8])], none)
noncomputable def bl_X9_layWays_8 : am_B := (45, [(.iconst 0, []), (.istore 4, [])], some 1009)
noncomputable def bl_X9_layWays_9 : am_B := (48, [(.iload 4, []), (.aload_n 0, []), (.getfield 136, [9, 1, 0]), (.if_icmp .gt 86, [1017, 10])], none)
noncomputable def bl_X9_layWays_10 : am_B := (57, [(.lconst 0, []), (.lstore 5, []), (.iconst (-1), []), (.istore 7, [])], some 1011)
noncomputable def bl_X9_layWays_11 : am_B := (63, [(.iload 7, []), (.iconst 2, []), (.if_icmp .ge 54, [1016, 12])], none)
noncomputable def bl_X9_layWays_12 : am_B := (69, [(.lload 5, []), (.aload_n 0, []), (.iload 4, []), (.aload_n 0, []), (.getfield 7, [9, 0, 2]), (.iconst 0, []), (.iaload, []), (.iload_n 3, []), (.iadd, []), (.iload 7, []), (.invokevirtual 190, [219, 3, 9, 1]), (.ifCond .eq 23, [14, 13])], none)
noncomputable def bl_X9_layWays_13 : am_B := (90, [(.aload_n 0, []), (.getfield 47, [9, 24, 2]), (.bipush 13, []), (.iload_n 3, []), (.iconst 1, []), (.iadd, []), (.imul, []), (.iload 4, []), (.iadd, []), (.iload 7, []), (.iadd, []), (.laload, []), (.goto 4, [15])], none)
noncomputable def bl_X9_layWays_14 : am_B := (110, [(.lconst 0, [])], some 15)
noncomputable def bl_X9_layWays_15 : am_B := (111, [(.ladd, []), (.lstore 5, []), (.iinc 7 1, []), (.goto (-54), [1011])], none)
noncomputable def bl_X9_layWays_16 : am_B := (120, [(.aload_n 0, []), (.getfield 47, [9, 24, 2]), (.bipush 13, []), (.iload_n 3, []), (.imul, []), (.iload 4, []), (.iadd, []), (.lload 5, []), (.lastore, []), (.iinc 4 1, []), (.goto (-89), [1009])], none)
noncomputable def bl_X9_layWays_17 : am_B := (140, [(.iinc 3 (-1), []), (.goto (-102), [1007])], none)
noncomputable def bl_X9_layWays_18 : am_B := (146, [(.return_, [])], none)
noncomputable def bk_X9_layWays : List am_B := [bl_X9_layWays_0, bl_X9_layWays_1, bl_X9_layWays_2, bl_X9_layWays_3, bl_X9_layWays_4, bl_X9_layWays_5, bl_X9_layWays_6, bl_X9_layWays_7, bl_X9_layWays_8, bl_X9_layWays_9, bl_X9_layWays_10, bl_X9_layWays_11, bl_X9_layWays_12, bl_X9_layWays_13, bl_X9_layWays_14, bl_X9_layWays_15, bl_X9_layWays_16, bl_X9_layWays_17, bl_X9_layWays_18]
noncomputable def ck_X9_layWays : List (List (Nat × List Nat)) := [[(1, []), (1, [])],
  [(1, []), (1, []), (3, [1068]), (3, [])],
  [(1, []), (3, [1091]), (2, []), (1, []), (1, []), (1, []), (1, []), (1, []), (1, []), (3, [])],
  [(1, []), (3, [])],
  [(1, [])],
  [(1, []), (3, []), (3, [])],
  [(1, []), (1, []), (1, []), (1, [])],
  [(1, []), (3, [])],
  [(1, []), (2, [])],
  [(2, []), (1, []), (3, [1068]), (3, [])],
  [(1, []), (2, []), (1, []), (2, [])],
  [(2, []), (1, []), (3, [])],
  [(2, []), (1, []), (2, []), (1, []), (3, [1067]), (1, []), (1, []), (1, []), (1, []), (2, []), (3, [1354, 1356, 54, 91]), (3, [])],
  [(1, []), (3, [1091]), (2, []), (1, []), (1, []), (1, []), (1, []), (2, []), (1, []), (2, []), (1, []), (1, []), (3, [])],
  [(1, [])],
  [(1, []), (2, []), (3, []), (3, [])],
  [(1, []), (3, [1091]), (2, []), (1, []), (1, []), (2, []), (1, []), (2, []), (1, []), (3, []), (3, [])],
  [(3, []), (3, [])],
  [(1, [])]]
theorem ok_X9_layWays : am_ck 233 bk_X9_layWays ck_X9_layWays = true := am_ckD (by decide +kernel)
theorem ml_X9_layWays : am_ml 233 = 8 := by decide +kernel
theorem pn_X9_layWays : plainName (am_y 233).cls = true := by decide +kernel
/-- PaceBorderModel.firstRow(II)V: number 234, loop heads [1, 3] -/
noncomputable def bl_X9_firstRow_0 : am_B := (0, [(.aload_n 0, []), (.getfield 7, [9, 0, 2]), (.iconst 1, []), (.iaload, []), (.istore_n 3, []), (.aload_n 0, []), (.iload_n 1, []), (.iload_n 2, []), (.invokevirtual 83, [175, 2, 9, 0]), (.iconst 0, []), (.istore 4, [])], some 1001)
noncomputable def bl_X9_firstRow_1 : am_B := (16, [(.iload 4, []), (.iload_n 2, []), (.if_icmp .ge 78, [1007, 2])], none)
noncomputable def bl_X9_firstRow_2 : am_B := (22, [(.iconst (-1), []), (.istore 5, [])], some 1003)
noncomputable def bl_X9_firstRow_3 : am_B := (25, [(.aload_n 0, []), (.iload_n 3, []), (.aload_n 0, []), (.getfield 7, [9, 0, 2]), (.iconst 0, []), (.iaload, []), (.iload 4, []), (.iadd, []), (.iload 5, []), (.invokevirtual 190, [219, 3, 9, 1]), (.ifCond .eq 25, [5, 4])], none)
noncomputable def bl_X9_firstRow_4 : am_B := (44, [(.aload_n 0, []), (.getfield 47, [9, 24, 2]), (.bipush 13, []), (.iload 4, []), (.iconst 1, []), (.iadd, []), (.imul, []), (.iload_n 3, []), (.iadd, []), (.iload 5, []), (.iadd, []), (.laload, []), (.lconst 0, []), (.lcmp, []), (.ifCond .ne 9, [1006, 5])], none)
noncomputable def bl_X9_firstRow_5 : am_B := (66, [(.iinc 5 1, []), (.goto (-44), [1003])], none)
noncomputable def bl_X9_firstRow_6 : am_B := (72, [(.aload_n 0, []), (.getfield 22, [9, 5, 2]), (.bipush 40, []), (.iload_n 1, []), (.imul, []), (.iload 4, []), (.iadd, []), (.iload 5, []), (.iastore, []), (.iload_n 3, []), (.iload 5, []), (.iadd, []), (.istore_n 3, []), (.iinc 4 1, []), (.goto (-78), [1001])], none)
noncomputable def bl_X9_firstRow_7 : am_B := (97, [(.return_, [])], none)
noncomputable def bk_X9_firstRow : List am_B := [bl_X9_firstRow_0, bl_X9_firstRow_1, bl_X9_firstRow_2, bl_X9_firstRow_3, bl_X9_firstRow_4, bl_X9_firstRow_5, bl_X9_firstRow_6, bl_X9_firstRow_7]
noncomputable def ck_X9_firstRow : List (List (Nat × List Nat)) := [[(1, []), (3, [1067]), (1, []), (1, []), (1, []), (1, []), (1, []), (1, []), (3, [1176, 1178, 34, 91]), (1, []), (2, [])],
  [(2, []), (1, []), (3, [])],
  [(1, []), (2, [])],
  [(1, []), (1, []), (1, []), (3, [1067]), (1, []), (1, []), (2, []), (1, []), (2, []), (3, [1354, 1356, 54, 91]), (3, [])],
  [(1, []), (3, [1091]), (2, []), (2, []), (1, []), (1, []), (1, []), (1, []), (1, []), (2, []), (1, []), (1, []), (1, []), (1, []), (3, [])],
  [(3, []), (3, [])],
  [(1, []), (3, [1072]), (2, []), (1, []), (1, []), (2, []), (1, []), (2, []), (1, []), (1, []), (2, []), (1, []), (1, []), (3, []), (3, [])],
  [(1, [])]]
theorem ok_X9_firstRow : am_ck 234 bk_X9_firstRow ck_X9_firstRow = true := am_ckD (by decide +kernel)
theorem ml_X9_firstRow : am_ml 234 = 6 := by decide +kernel
theorem pn_X9_firstRow : plainName (am_y 234).cls = true := by decide +kernel
/-- PaceBorderModel.polite(III)I: number 235, loop heads [] -/
noncomputable def bl_X9_polite_0 : am_B := (0, [(.aload_n 0, []), (.iload_n 1, []), (.invokevirtual 223, [217, 1, 9, 1]), (.ifCond .eq 22, [3, 1])], none)
noncomputable def bl_X9_polite_1 : am_B := (8, [(.iload_n 2, []), (.i2l, []), (.lconst 0, []), (.ldc2_w 238, [20]), (.invokestatic 69, [168, 3, 0, 1]), (.ifCond .eq 10, [3, 2])], none)
noncomputable def bl_X9_polite_2 : am_B := (20, [(.iload_n 3, []), (.invokestatic 75, [172, 1, 0, 1]), (.ifCond .ne 5, [4, 3])], none)
noncomputable def bl_X9_polite_3 : am_B := (27, [(.iconst (-1), []), (.ireturn, [0])], none)
noncomputable def bl_X9_polite_4 : am_B := (29, [(.aload_n 0, []), (.getfield 136, [9, 1, 0]), (.ifCond .ne 6, [6, 5])], none)
noncomputable def bl_X9_polite_5 : am_B := (36, [(.bipush (-4), []), (.ireturn, [0])], none)
noncomputable def bl_X9_polite_6 : am_B := (39, [(.aload_n 0, []), (.iconst 0, []), (.putfield 210, [9, 22, 0, 0]), (.aload_n 0, []), (.iload_n 2, []), (.iload_n 1, []), (.invokevirtual 240, [229, 2, 9, 0]), (.aload_n 0, []), (.getfield 44, [9, 21, 2]), (.aload_n 0, []), (.getfield 7, [9, 0, 2]), (.iconst 1, []), (.iaload, []), (.iaload, []), (.istore 4, []), (.iload 4, []), (.ldc 216, [1048576]), (.if_icmp .lt 6, [8, 7])], none)
noncomputable def bl_X9_polite_7 : am_B := (70, [(.bipush (-9), []), (.ireturn, [0])], none)
noncomputable def bl_X9_polite_8 : am_B := (73, [(.aload_n 0, []), (.iload_n 3, []), (.iload_n 2, []), (.invokevirtual 243, [230, 2, 9, 0]), (.iload 4, []), (.ireturn, [0])], none)
noncomputable def bk_X9_polite : List am_B := [bl_X9_polite_0, bl_X9_polite_1, bl_X9_polite_2, bl_X9_polite_3, bl_X9_polite_4, bl_X9_polite_5, bl_X9_polite_6, bl_X9_polite_7, bl_X9_polite_8]
noncomputable def ck_X9_polite : List (List (Nat × List Nat)) := [[(1, []), (1, []), (3, [1391, 1393, 59, 91]), (3, [])],
  [(1, []), (1, []), (1, []), (3, [1414]), (3, [1169, 1170, 91]), (3, [])],
  [(1, []), (3, [1165, 1166, 91]), (3, [])],
  [(1, []), (1, [])],
  [(1, []), (3, [1068]), (3, [])],
  [(2, []), (1, [])],
  [(1, []), (1, []), (3, [1089]), (1, []), (1, []), (1, []), (3, [1415, 1417, 63, 91]), (1, []), (3, [1088]), (1, []), (3, [1067]), (1, []), (1, []), (1, []), (2, []), (2, []), (2, [1419]), (3, [])],
  [(2, []), (1, [])],
  [(1, []), (1, []), (1, []), (3, [1428, 1430, 66, 91]), (2, []), (1, [])]]
theorem ok_X9_polite : am_ck 235 bk_X9_polite ck_X9_polite = true := am_ckD (by decide +kernel)
theorem ml_X9_polite : am_ml 235 = 5 := by decide +kernel
theorem pn_X9_polite : plainName (am_y 235).cls = true := by decide +kernel
/-- PaceBorderModel.tellParts(JJ)I: number 236, loop heads [1] -/
noncomputable def bl_X9_tellParts_0 : am_B := (0, [(.lload_n 1, []), (.lstore 5, []), (.lload_n 3, []), (.lstore 7, [])], some 1001)
noncomputable def bl_X9_tellParts_1 : am_B := (6, [(.lload 7, []), (.lconst 0, []), (.lcmp, []), (.ifCond .eq 21, [1003, 2])], none)
noncomputable def bl_X9_tellParts_2 : am_B := (13, [(.lload 5, []), (.lload 7, []), (.lrem, []), (.lstore 9, []), (.lload 7, []), (.lstore 5, []), (.lload 9, []), (.lstore 7, []), (.goto (-22), [1001])], none)
noncomputable def bl_X9_tellParts_3 : am_B := (31, [(.aload_n 0, []), (.lload_n 1, []), (.lload 5, []), (.ldiv, []), (.putfield 246, [9, 9, 1, 0]), (.aload_n 0, []), (.lload_n 3, []), (.lload 5, []), (.ldiv, []), (.putfield 31, [9, 10, 1, 0]), (.iconst 1, []), (.ireturn, [0])], none)
noncomputable def bk_X9_tellParts : List am_B := [bl_X9_tellParts_0, bl_X9_tellParts_1, bl_X9_tellParts_2, bl_X9_tellParts_3]
noncomputable def ck_X9_tellParts : List (List (Nat × List Nat)) := [[(1, []), (2, []), (1, []), (2, [])],
  [(2, []), (1, []), (1, []), (3, [])],
  [(2, []), (2, []), (1, []), (2, []), (2, []), (2, []), (2, []), (2, []), (3, [])],
  [(1, []), (1, []), (2, []), (1, []), (3, [1076]), (1, []), (1, []), (2, []), (1, []), (3, [1077]), (1, []), (1, [])]]
theorem ok_X9_tellParts : am_ck 236 bk_X9_tellParts ck_X9_tellParts = true := am_ckD (by decide +kernel)
theorem ml_X9_tellParts : am_ml 236 = 11 := by decide +kernel
theorem pn_X9_tellParts : plainName (am_y 236).cls = true := by decide +kernel
/-- PaceBorderModel.ways(II)I: number 237, loop heads [] -/
noncomputable def bl_X9_ways_0 : am_B := (0, [(.aload_n 0, []), (.iload_n 1, []), (.invokevirtual 223, [217, 1, 9, 1]), (.ifCond .eq 15, [2, 1])], none)
noncomputable def bl_X9_ways_1 : am_B := (8, [(.iload_n 2, []), (.i2l, []), (.lconst 0, []), (.ldc2_w 238, [20]), (.invokestatic 69, [168, 3, 0, 1]), (.ifCond .ne 5, [3, 2])], none)
noncomputable def bl_X9_ways_2 : am_B := (20, [(.iconst (-1), []), (.ireturn, [0])], none)
noncomputable def bl_X9_ways_3 : am_B := (22, [(.aload_n 0, []), (.getfield 136, [9, 1, 0]), (.ifCond .ne 6, [5, 4])], none)
noncomputable def bl_X9_ways_4 : am_B := (29, [(.bipush (-4), []), (.ireturn, [0])], none)
noncomputable def bl_X9_ways_5 : am_B := (32, [(.aload_n 0, []), (.iload_n 2, []), (.iload_n 1, []), (.invokevirtual 232, [233, 2, 9, 0]), (.aload_n 0, []), (.aload_n 0, []), (.getfield 47, [9, 24, 2]), (.aload_n 0, []), (.getfield 7, [9, 0, 2]), (.iconst 1, []), (.iaload, []), (.laload, []), (.putfield 246, [9, 9, 1, 0]), (.aload_n 0, []), (.lconst 1, []), (.putfield 31, [9, 10, 1, 0]), (.iconst 1, []), (.ireturn, [0])], none)
noncomputable def bk_X9_ways : List am_B := [bl_X9_ways_0, bl_X9_ways_1, bl_X9_ways_2, bl_X9_ways_3, bl_X9_ways_4, bl_X9_ways_5]
noncomputable def ck_X9_ways : List (List (Nat × List Nat)) := [[(1, []), (1, []), (3, [1391, 1393, 59, 91]), (3, [])],
  [(1, []), (1, []), (1, []), (3, [1414]), (3, [1169, 1170, 91]), (3, [])],
  [(1, []), (1, [])],
  [(1, []), (3, [1068]), (3, [])],
  [(2, []), (1, [])],
  [(1, []), (1, []), (1, []), (3, [1402, 1404, 61, 91]), (1, []), (1, []), (3, [1091]), (1, []), (3, [1067]), (1, []), (1, []), (1, []), (3, [1076]), (1, []), (1, []), (3, [1077]), (1, []), (1, [])]]
theorem ok_X9_ways : am_ck 237 bk_X9_ways ck_X9_ways = true := am_ckD (by decide +kernel)
theorem ml_X9_ways : am_ml 237 = 3 := by decide +kernel
theorem pn_X9_ways : plainName (am_y 237).cls = true := by decide +kernel
/-- PaceBorderModel.reach(I)I: number 238, loop heads [] -/
noncomputable def bl_X9_reach_0 : am_B := (0, [(.iload_n 1, []), (.i2l, []), (.lconst 0, []), (.ldc2_w 238, [20]), (.invokestatic 69, [168, 3, 0, 1]), (.ifCond .ne 5, [2, 1])], none)
noncomputable def bl_X9_reach_1 : am_B := (12, [(.iconst (-1), []), (.ireturn, [0])], none)
noncomputable def bl_X9_reach_2 : am_B := (14, [(.aload_n 0, []), (.getfield 136, [9, 1, 0]), (.ifCond .ne 8, [4, 3])], none)
noncomputable def bl_X9_reach_3 : am_B := (21, [(.bipush (-4), []), (.goto 8, [5])], none)
noncomputable def bl_X9_reach_4 : am_B := (26, [(.aload_n 0, []), (.iload_n 1, []), (.invokevirtual 226, [232, 1, 9, 1])], some 5)
noncomputable def bl_X9_reach_5 : am_B := (31, [(.ireturn, [0])], none)
noncomputable def bk_X9_reach : List am_B := [bl_X9_reach_0, bl_X9_reach_1, bl_X9_reach_2, bl_X9_reach_3, bl_X9_reach_4, bl_X9_reach_5]
noncomputable def ck_X9_reach : List (List (Nat × List Nat)) := [[(1, []), (1, []), (1, []), (3, [1414]), (3, [1169, 1170, 91]), (3, [])],
  [(1, []), (1, [])],
  [(1, []), (3, [1068]), (3, [])],
  [(2, []), (3, [])],
  [(1, []), (1, []), (3, [1395, 1397, 60, 91])],
  [(1, [])]]
theorem ok_X9_reach : am_ck 238 bk_X9_reach ck_X9_reach = true := am_ckD (by decide +kernel)
theorem ml_X9_reach : am_ml 238 = 2 := by decide +kernel
theorem pn_X9_reach : plainName (am_y 238).cls = true := by decide +kernel
/-- PaceBorderModel.least(III)I: number 239, loop heads [] -/
noncomputable def bl_X9_least_0 : am_B := (0, [(.aload_n 0, []), (.iload_n 1, []), (.invokevirtual 139, [194, 1, 9, 1]), (.ifCond .eq 22, [3, 1])], none)
noncomputable def bl_X9_least_1 : am_B := (8, [(.iload_n 2, []), (.i2l, []), (.lconst 0, []), (.ldc2_w 238, [20]), (.invokestatic 69, [168, 3, 0, 1]), (.ifCond .eq 10, [3, 2])], none)
noncomputable def bl_X9_least_2 : am_B := (20, [(.iload_n 3, []), (.invokestatic 75, [172, 1, 0, 1]), (.ifCond .ne 5, [4, 3])], none)
noncomputable def bl_X9_least_3 : am_B := (27, [(.iconst (-1), []), (.ireturn, [0])], none)
noncomputable def bl_X9_least_4 : am_B := (29, [(.aload_n 0, []), (.iconst 1, []), (.putfield 210, [9, 22, 0, 0]), (.aload_n 0, []), (.iload_n 1, []), (.putfield 213, [9, 23, 0, 0]), (.aload_n 0, []), (.iload_n 2, []), (.iconst (-1), []), (.invokevirtual 240, [229, 2, 9, 0]), (.aload_n 0, []), (.iload_n 3, []), (.iload_n 2, []), (.invokevirtual 243, [230, 2, 9, 0]), (.aload_n 0, []), (.getfield 44, [9, 21, 2]), (.aload_n 0, []), (.getfield 7, [9, 0, 2]), (.iconst 1, []), (.iaload, []), (.iaload, []), (.ireturn, [0])], none)
noncomputable def bk_X9_least : List am_B := [bl_X9_least_0, bl_X9_least_1, bl_X9_least_2, bl_X9_least_3, bl_X9_least_4]
noncomputable def ck_X9_least : List (List (Nat × List Nat)) := [[(1, []), (1, []), (3, [1264, 1266, 45, 91]), (3, [])],
  [(1, []), (1, []), (1, []), (3, [1414]), (3, [1169, 1170, 91]), (3, [])],
  [(1, []), (3, [1165, 1166, 91]), (3, [])],
  [(1, []), (1, [])],
  [(1, []), (1, []), (3, [1089]), (1, []), (1, []), (3, [1090]), (1, []), (1, []), (1, []), (3, [1415, 1417, 63, 91]), (1, []), (1, []), (1, []), (3, [1428, 1430, 66, 91]), (1, []), (3, [1088]), (1, []), (3, [1067]), (1, []), (1, []), (1, []), (1, [])]]
theorem ok_X9_least : am_ck 239 bk_X9_least ck_X9_least = true := am_ckD (by decide +kernel)
theorem ml_X9_least : am_ml 239 = 4 := by decide +kernel
theorem pn_X9_least : plainName (am_y 239).cls = true := by decide +kernel
/-- PaceBorderModel.most(II)I: number 240, loop heads [] -/
noncomputable def bl_X9_most_0 : am_B := (0, [(.iload_n 1, []), (.i2l, []), (.lconst 0, []), (.lconst 1, []), (.invokestatic 69, [168, 3, 0, 1]), (.ifCond .eq 15, [2, 1])], none)
noncomputable def bl_X9_most_1 : am_B := (10, [(.iload_n 2, []), (.i2l, []), (.lconst 0, []), (.ldc2_w 238, [20]), (.invokestatic 69, [168, 3, 0, 1]), (.ifCond .ne 5, [3, 2])], none)
noncomputable def bl_X9_most_2 : am_B := (22, [(.iconst (-1), []), (.ireturn, [0])], none)
noncomputable def bl_X9_most_3 : am_B := (24, [(.aload_n 0, []), (.getfield 136, [9, 1, 0]), (.ifCond .ne 6, [5, 4])], none)
noncomputable def bl_X9_most_4 : am_B := (31, [(.bipush (-4), []), (.ireturn, [0])], none)
noncomputable def bl_X9_most_5 : am_B := (34, [(.aload_n 0, []), (.iconst 2, []), (.putfield 210, [9, 22, 0, 0]), (.aload_n 0, []), (.iload_n 1, []), (.putfield 213, [9, 23, 0, 0]), (.aload_n 0, []), (.iload_n 2, []), (.iconst (-1), []), (.invokevirtual 240, [229, 2, 9, 0]), (.aload_n 0, []), (.getfield 44, [9, 21, 2]), (.aload_n 0, []), (.getfield 7, [9, 0, 2]), (.iconst 1, []), (.iaload, []), (.iaload, []), (.ineg, []), (.ireturn, [0])], none)
noncomputable def bk_X9_most : List am_B := [bl_X9_most_0, bl_X9_most_1, bl_X9_most_2, bl_X9_most_3, bl_X9_most_4, bl_X9_most_5]
noncomputable def ck_X9_most : List (List (Nat × List Nat)) := [[(1, []), (1, []), (1, []), (1, []), (3, [1169, 1170, 91]), (3, [])],
  [(1, []), (1, []), (1, []), (3, [1414]), (3, [1169, 1170, 91]), (3, [])],
  [(1, []), (1, [])],
  [(1, []), (3, [1068]), (3, [])],
  [(2, []), (1, [])],
  [(1, []), (1, []), (3, [1089]), (1, []), (1, []), (3, [1090]), (1, []), (1, []), (1, []), (3, [1415, 1417, 63, 91]), (1, []), (3, [1088]), (1, []), (3, [1067]), (1, []), (1, []), (1, []), (1, []), (1, [])]]
theorem ok_X9_most : am_ck 240 bk_X9_most ck_X9_most = true := am_ckD (by decide +kernel)
theorem ml_X9_most : am_ml 240 = 3 := by decide +kernel
theorem pn_X9_most : plainName (am_y 240).cls = true := by decide +kernel
/-- PaceBorderModel.now()I: number 241, loop heads [3] -/
noncomputable def bl_X9_now_0 : am_B := (0, [(.aload_n 0, []), (.getfield 136, [9, 1, 0]), (.ifCond .ne 6, [2, 1])], none)
noncomputable def bl_X9_now_1 : am_B := (7, [(.bipush (-4), []), (.ireturn, [0])], none)
noncomputable def bl_X9_now_2 : am_B := (10, [(.iconst 0, []), (.istore_n 1, []), (.aload_n 0, []), (.iconst 0, []), (.putfield 64, [9, 8, 0, 0]), (.iconst 0, []), (.istore_n 2, [])], some 1003)
noncomputable def bl_X9_now_3 : am_B := (19, [(.iload_n 2, []), (.aload_n 0, []), (.getfield 136, [9, 1, 0]), (.if_icmp .ge 57, [1005, 4])], none)
noncomputable def bl_X9_now_4 : am_B := (27, [(.iload_n 1, []), (.aload_n 0, []), (.iload_n 2, []), (.iconst 0, []), (.aload_n 0, []), (.getfield 7, [9, 0, 2]), (.iconst 1, []), (.iaload, []), (.aload_n 0, []), (.getfield 7, [9, 0, 2]), (.iconst 2, []), (.iaload, []), (.invokevirtual 156, [198, 4, 9, 1]), (.iadd, []), (.istore_n 1, []), (.aload_n 0, []), (.dup, []), (.getfield 64, [9, 8, 0]), (.aload_n 0, []), (.iload_n 2, []), (.iconst 1, []), (.aload_n 0, []), (.getfield 7, [9, 0, 2]), (.iconst 1, []), (.iaload, []), (.aload_n 0, []), (.getfield 7, [9, 0, 2]), (.iconst 3, []), (.iaload, []), (.invokevirtual 156, [198, 4, 9, 1]), (.iadd, []), (.putfield 64, [9, 8, 0, 0]), (.iinc 2 1, []), (.goto (-59), [1003])], none)
noncomputable def bl_X9_now_5 : am_B := (81, [(.iload_n 1, []), (.ireturn, [0])], none)
noncomputable def bk_X9_now : List am_B := [bl_X9_now_0, bl_X9_now_1, bl_X9_now_2, bl_X9_now_3, bl_X9_now_4, bl_X9_now_5]
noncomputable def ck_X9_now : List (List (Nat × List Nat)) := [[(1, []), (3, [1068]), (3, [])],
  [(2, []), (1, [])],
  [(1, []), (1, []), (1, []), (1, []), (3, [1075]), (1, []), (1, [])],
  [(1, []), (1, []), (3, [1068]), (3, [])],
  [(1, []), (1, []), (1, []), (1, []), (1, []), (3, [1067]), (1, []), (1, []), (1, []), (3, [1067]), (1, []), (1, []), (3, [1287, 1289, 49, 91]), (1, []), (1, []), (1, []), (1, []), (3, [1075]), (1, []), (1, []), (1, []), (1, []), (3, [1067]), (1, []), (1, []), (1, []), (3, [1067]), (1, []), (1, []), (3, [1287, 1289, 49, 91]), (1, []), (3, [1075]), (3, []), (3, [])],
  [(1, []), (1, [])]]
theorem ok_X9_now : am_ck 241 bk_X9_now ck_X9_now = true := am_ckD (by decide +kernel)
theorem ml_X9_now : am_ml 241 = 3 := by decide +kernel
theorem pn_X9_now : plainName (am_y 241).cls = true := by decide +kernel
/-- PaceBorderModel.layChances(III)V: number 242, loop heads [1, 7, 9, 12, 14, 24] -/
noncomputable def bl_X9_layChances_0 : am_B := (0, [(.iconst 0, []), (.istore 4, [])], some 1001)
noncomputable def bl_X9_layChances_1 : am_B := (3, [(.iload 4, []), (.bipush 13, []), (.if_icmp .ge 32, [1006, 2])], none)
noncomputable def bl_X9_layChances_2 : am_B := (10, [(.aload_n 0, []), (.getfield 51, [9, 25, 2]), (.iload 4, []), (.iload 4, []), (.aload_n 0, []), (.getfield 7, [9, 0, 2]), (.iconst 1, []), (.iaload, []), (.if_icmp .ne 7, [4, 3])], none)
noncomputable def bl_X9_layChances_3 : am_B := (27, [(.lconst 1, []), (.goto 4, [5])], none)
noncomputable def bl_X9_layChances_4 : am_B := (31, [(.lconst 0, [])], some 5)
noncomputable def bl_X9_layChances_5 : am_B := (32, [(.lastore, []), (.iinc 4 1, []), (.goto (-33), [1001])], none)
noncomputable def bl_X9_layChances_6 : am_B := (39, [(.aload_n 0, []), (.lconst 0, []), (.putfield 249, [9, 27, 1, 0]), (.iconst 0, []), (.istore 4, [])], some 1007)
noncomputable def bl_X9_layChances_7 : am_B := (47, [(.iload 4, []), (.iload_n 1, []), (.if_icmp .ge 201, [1027, 8])], none)
noncomputable def bl_X9_layChances_8 : am_B := (53, [(.aload_n 0, []), (.getfield 7, [9, 0, 2]), (.iconst 0, []), (.iaload, []), (.iload 4, []), (.iadd, []), (.istore 5, []), (.aload_n 0, []), (.dup, []), (.getfield 249, [9, 27, 1]), (.ldc2_w 252, [16]), (.lmul, []), (.putfield 249, [9, 27, 1, 0]), (.iconst 0, []), (.istore 6, [])], some 1009)
noncomputable def bl_X9_layChances_9 : am_B := (79, [(.iload 6, []), (.bipush 13, []), (.if_icmp .ge 17, [1011, 10])], none)
noncomputable def bl_X9_layChances_10 : am_B := (86, [(.aload_n 0, []), (.getfield 54, [9, 26, 2]), (.iload 6, []), (.lconst 0, []), (.lastore, []), (.iinc 6 1, []), (.goto (-18), [1009])], none)
noncomputable def bl_X9_layChances_11 : am_B := (100, [(.iconst 0, []), (.istore 6, [])], some 1012)
noncomputable def bl_X9_layChances_12 : am_B := (103, [(.iload 6, []), (.aload_n 0, []), (.getfield 136, [9, 1, 0]), (.if_icmp .gt 106, [1023, 13])], none)
noncomputable def bl_X9_layChances_13 : am_B := (112, [(.iconst 0, []), (.istore 7, [])], some 1014)
noncomputable def bl_X9_layChances_14 : am_B := (115, [(.iload 7, []), (.bipush 16, []), (.if_icmp .ge 90, [1022, 15])], none)
noncomputable def bl_X9_layChances_15 : am_B := (122, [(.iload 6, []), (.iload_n 2, []), (.if_icmp .ne 8, [17, 16])], none)
noncomputable def bl_X9_layChances_16 : am_B := (128, [(.iload 6, []), (.goto 19, [18])], none)
noncomputable def bl_X9_layChances_17 : am_B := (133, [(.aload_n 0, []), (.iload 6, []), (.iload 5, []), (.iload 7, []), (.iconst 4, []), (.idiv, []), (.iload 7, []), (.iconst 4, []), (.irem, []), (.invokevirtual 149, [196, 4, 9, 1])], some 18)
noncomputable def bl_X9_layChances_18 : am_B := (149, [(.istore 8, []), (.aload_n 0, []), (.getfield 54, [9, 26, 2]), (.iload 8, []), (.dup2, []), (.laload, []), (.aload_n 0, []), (.getfield 51, [9, 25, 2]), (.iload 6, []), (.laload, []), (.ladd, []), (.lastore, []), (.aload_n 0, []), (.dup, []), (.getfield 249, [9, 27, 1]), (.iload_n 3, []), (.ifCond .ge 7, [20, 19])], none)
noncomputable def bl_X9_layChances_19 : am_B := (177, [(.lconst 0, []), (.goto 21, [21])], none)
noncomputable def bl_X9_layChances_20 : am_B := (181, [(.aload_n 0, []), (.getfield 51, [9, 25, 2]), (.iload 6, []), (.laload, []), (.aload_n 0, []), (.iload_n 3, []), (.iload 5, []), (.iload 8, []), (.invokevirtual 207, [225, 3, 9, 1]), (.i2l, []), (.lmul, [])], some 21)
noncomputable def bl_X9_layChances_21 : am_B := (199, [(.ladd, []), (.putfield 249, [9, 27, 1, 0]), (.iinc 7 1, []), (.goto (-91), [1014])], none)
noncomputable def bl_X9_layChances_22 : am_B := (209, [(.iinc 6 1, []), (.goto (-109), [1012])], none)
noncomputable def bl_X9_layChances_23 : am_B := (215, [(.iconst 0, []), (.istore 6, [])], some 1024)
noncomputable def bl_X9_layChances_24 : am_B := (218, [(.iload 6, []), (.bipush 13, []), (.if_icmp .ge 23, [1026, 25])], none)
noncomputable def bl_X9_layChances_25 : am_B := (225, [(.aload_n 0, []), (.getfield 51, [9, 25, 2]), (.iload 6, []), (.aload_n 0, []), (.getfield 54, [9, 26, 2]), (.iload 6, []), (.laload, []), (.lastore, []), (.iinc 6 1, []), (.goto (-24), [1024])], none)
noncomputable def bl_X9_layChances_26 : am_B := (245, [(.iinc 4 1, []), (.goto (-201), [1007])], none)
noncomputable def bl_X9_layChances_27 : am_B := (251, [(.return_, [])], none)
noncomputable def bk_X9_layChances : List am_B := [bl_X9_layChances_0, bl_X9_layChances_1, bl_X9_layChances_2, bl_X9_layChances_3, bl_X9_layChances_4, bl_X9_layChances_5, bl_X9_layChances_6, bl_X9_layChances_7, bl_X9_layChances_8, bl_X9_layChances_9, bl_X9_layChances_10, bl_X9_layChances_11, bl_X9_layChances_12, bl_X9_layChances_13, bl_X9_layChances_14, bl_X9_layChances_15, bl_X9_layChances_16, bl_X9_layChances_17, bl_X9_layChances_18, bl_X9_layChances_19, bl_X9_layChances_20, bl_X9_layChances_21, bl_X9_layChances_22, bl_X9_layChances_23, bl_X9_layChances_24, bl_X9_layChances_25, bl_X9_layChances_26, bl_X9_layChances_27]
noncomputable def ck_X9_layChances : List (List (Nat × List Nat)) := [[(1, []), (2, [])],
  [(2, []), (2, []), (3, [])],
  [(1, []), (3, [1092]), (2, []), (2, []), (1, []), (3, [1067]), (1, []), (1, []), (3, [])],
  [(1, []), (3, [])],
  [(1, [])],
  [(1, []), (3, []), (3, [])],
  [(1, []), (1, []), (3, [1094]), (1, []), (2, [])],
  [(2, []), (1, []), (3, [])],
  [(1, []), (3, [1067]), (1, []), (1, []), (2, []), (1, []), (2, []), (1, []), (1, []), (3, [1094]), (3, [1461]), (1, []), (3, [1094]), (1, []), (2, [])],
  [(2, []), (2, []), (3, [])],
  [(1, []), (3, [1093]), (2, []), (1, []), (1, []), (3, []), (3, [])],
  [(1, []), (2, [])],
  [(2, []), (1, []), (3, [1068]), (3, [])],
  [(1, []), (2, [])],
  [(2, []), (2, []), (3, [])],
  [(2, []), (1, []), (3, [])],
  [(2, []), (3, [])],
  [(1, []), (2, []), (2, []), (2, []), (1, []), (1, []), (2, []), (1, []), (1, []), (3, [1307, 1309, 51, 91])],
  [(2, []), (1, []), (3, [1093]), (2, []), (1, []), (1, []), (1, []), (3, [1092]), (2, []), (1, []), (1, []), (1, []), (1, []), (1, []), (3, [1094]), (1, []), (3, [])],
  [(1, []), (3, [])],
  [(1, []), (3, [1092]), (2, []), (1, []), (1, []), (1, []), (2, []), (2, []), (3, [1383, 1385, 58, 91]), (1, []), (1, [])],
  [(1, []), (3, [1094]), (3, []), (3, [])],
  [(3, []), (3, [])],
  [(1, []), (2, [])],
  [(2, []), (2, []), (3, [])],
  [(1, []), (3, [1092]), (2, []), (1, []), (3, [1093]), (2, []), (1, []), (1, []), (3, []), (3, [])],
  [(3, []), (3, [])],
  [(1, [])]]
theorem ok_X9_layChances : am_ck 242 bk_X9_layChances ck_X9_layChances = true := am_ckD (by decide +kernel)
theorem ml_X9_layChances : am_ml 242 = 9 := by decide +kernel
theorem pn_X9_layChances : plainName (am_y 242).cls = true := by decide +kernel
/-- PaceBorderModel.sixteen(I)J: number 243, loop heads [] -/
noncomputable def bl_X9_sixteen_0 : am_B := (0, [(.lconst 1, []), (.iconst 4, []), (.iload_n 0, []), (.imul, []), (.lshl, []), (.lreturn, [])], none)
noncomputable def bk_X9_sixteen : List am_B := [bl_X9_sixteen_0]
noncomputable def ck_X9_sixteen : List (List (Nat × List Nat)) := [[(1, []), (1, []), (1, []), (1, []), (1, []), (1, [])]]
theorem ok_X9_sixteen : am_ck 243 bk_X9_sixteen ck_X9_sixteen = true := am_ckD (by decide +kernel)
theorem ml_X9_sixteen : am_ml 243 = 1 := by decide +kernel
theorem pn_X9_sixteen : plainName (am_y 243).cls = true := by decide +kernel
/-- PaceBorderModel.odds(II)I: number 244, loop heads [] -/
noncomputable def bl_X9_odds_0 : am_B := (0, [(.aload_n 0, []), (.iload_n 1, []), (.invokevirtual 223, [217, 1, 9, 1]), (.ifCond .eq 15, [2, 1])], none)
noncomputable def bl_X9_odds_1 : am_B := (8, [(.iload_n 2, []), (.i2l, []), (.lconst 0, []), (.ldc2_w 254, [6]), (.invokestatic 69, [168, 3, 0, 1]), (.ifCond .ne 5, [3, 2])], none)
noncomputable def bl_X9_odds_2 : am_B := (20, [(.iconst (-1), []), (.ireturn, [0])], none)
noncomputable def bl_X9_odds_3 : am_B := (22, [(.aload_n 0, []), (.getfield 136, [9, 1, 0]), (.ifCond .ne 6, [5, 4])], none)
noncomputable def bl_X9_odds_4 : am_B := (29, [(.bipush (-4), []), (.ireturn, [0])], none)
noncomputable def bl_X9_odds_5 : am_B := (32, [(.aload_n 0, []), (.iload_n 2, []), (.iconst (-1), []), (.iconst (-1), []), (.invokevirtual 256, [242, 3, 9, 0]), (.aload_n 0, []), (.aload_n 0, []), (.getfield 51, [9, 25, 2]), (.iload_n 1, []), (.laload, []), (.iload_n 2, []), (.invokestatic 259, [243, 1, 0, 2]), (.invokevirtual 263, [236, 2, 9, 1]), (.ireturn, [0])], none)
noncomputable def bk_X9_odds : List am_B := [bl_X9_odds_0, bl_X9_odds_1, bl_X9_odds_2, bl_X9_odds_3, bl_X9_odds_4, bl_X9_odds_5]
noncomputable def ck_X9_odds : List (List (Nat × List Nat)) := [[(1, []), (1, []), (3, [1391, 1393, 59, 91]), (3, [])],
  [(1, []), (1, []), (1, []), (3, [1456]), (3, [1169, 1170, 91]), (3, [])],
  [(1, []), (1, [])],
  [(1, []), (3, [1068]), (3, [])],
  [(2, []), (1, [])],
  [(1, []), (1, []), (1, []), (1, []), (3, [1457, 1459, 67, 91]), (1, []), (1, []), (3, [1092]), (1, []), (1, []), (1, []), (3, [1462, 1463, 91]), (3, [1465, 1467, 68, 91]), (1, [])]]
theorem ok_X9_odds : am_ck 244 bk_X9_odds ck_X9_odds = true := am_ckD (by decide +kernel)
theorem ml_X9_odds : am_ml 244 = 3 := by decide +kernel
theorem pn_X9_odds : plainName (am_y 244).cls = true := by decide +kernel
/-- PaceBorderModel.met(II)I: number 245, loop heads [] -/
noncomputable def bl_X9_met_0 : am_B := (0, [(.aload_n 0, []), (.iload_n 1, []), (.invokevirtual 223, [217, 1, 9, 1]), (.ifCond .eq 15, [2, 1])], none)
noncomputable def bl_X9_met_1 : am_B := (8, [(.iload_n 2, []), (.i2l, []), (.lconst 0, []), (.ldc2_w 254, [6]), (.invokestatic 69, [168, 3, 0, 1]), (.ifCond .ne 5, [3, 2])], none)
noncomputable def bl_X9_met_2 : am_B := (20, [(.iconst (-1), []), (.ireturn, [0])], none)
noncomputable def bl_X9_met_3 : am_B := (22, [(.aload_n 0, []), (.getfield 136, [9, 1, 0]), (.ifCond .ne 6, [5, 4])], none)
noncomputable def bl_X9_met_4 : am_B := (29, [(.bipush (-4), []), (.ireturn, [0])], none)
noncomputable def bl_X9_met_5 : am_B := (32, [(.aload_n 0, []), (.iload_n 2, []), (.iload_n 1, []), (.iconst (-1), []), (.invokevirtual 256, [242, 3, 9, 0]), (.aload_n 0, []), (.aload_n 0, []), (.getfield 51, [9, 25, 2]), (.iload_n 1, []), (.laload, []), (.iload_n 2, []), (.invokestatic 259, [243, 1, 0, 2]), (.invokevirtual 263, [236, 2, 9, 1]), (.ireturn, [0])], none)
noncomputable def bk_X9_met : List am_B := [bl_X9_met_0, bl_X9_met_1, bl_X9_met_2, bl_X9_met_3, bl_X9_met_4, bl_X9_met_5]
noncomputable def ck_X9_met : List (List (Nat × List Nat)) := [[(1, []), (1, []), (3, [1391, 1393, 59, 91]), (3, [])],
  [(1, []), (1, []), (1, []), (3, [1456]), (3, [1169, 1170, 91]), (3, [])],
  [(1, []), (1, [])],
  [(1, []), (3, [1068]), (3, [])],
  [(2, []), (1, [])],
  [(1, []), (1, []), (1, []), (1, []), (3, [1457, 1459, 67, 91]), (1, []), (1, []), (3, [1092]), (1, []), (1, []), (1, []), (3, [1462, 1463, 91]), (3, [1465, 1467, 68, 91]), (1, [])]]
theorem ok_X9_met : am_ck 245 bk_X9_met ck_X9_met = true := am_ckD (by decide +kernel)
theorem ml_X9_met : am_ml 245 = 3 := by decide +kernel
theorem pn_X9_met : plainName (am_y 245).cls = true := by decide +kernel
/-- PaceBorderModel.hedge(II)I: number 246, loop heads [] -/
noncomputable def bl_X9_hedge_0 : am_B := (0, [(.aload_n 0, []), (.iload_n 1, []), (.invokevirtual 139, [194, 1, 9, 1]), (.ifCond .eq 15, [2, 1])], none)
noncomputable def bl_X9_hedge_1 : am_B := (8, [(.iload_n 2, []), (.i2l, []), (.lconst 0, []), (.ldc2_w 254, [6]), (.invokestatic 69, [168, 3, 0, 1]), (.ifCond .ne 5, [3, 2])], none)
noncomputable def bl_X9_hedge_2 : am_B := (20, [(.iconst (-1), []), (.ireturn, [0])], none)
noncomputable def bl_X9_hedge_3 : am_B := (22, [(.aload_n 0, []), (.iload_n 2, []), (.iconst (-1), []), (.iload_n 1, []), (.invokevirtual 256, [242, 3, 9, 0]), (.aload_n 0, []), (.aload_n 0, []), (.getfield 249, [9, 27, 1]), (.iload_n 2, []), (.invokestatic 259, [243, 1, 0, 2]), (.invokevirtual 263, [236, 2, 9, 1]), (.ireturn, [0])], none)
noncomputable def bk_X9_hedge : List am_B := [bl_X9_hedge_0, bl_X9_hedge_1, bl_X9_hedge_2, bl_X9_hedge_3]
noncomputable def ck_X9_hedge : List (List (Nat × List Nat)) := [[(1, []), (1, []), (3, [1264, 1266, 45, 91]), (3, [])],
  [(1, []), (1, []), (1, []), (3, [1456]), (3, [1169, 1170, 91]), (3, [])],
  [(1, []), (1, [])],
  [(1, []), (1, []), (1, []), (1, []), (3, [1457, 1459, 67, 91]), (1, []), (1, []), (3, [1094]), (1, []), (3, [1462, 1463, 91]), (3, [1465, 1467, 68, 91]), (1, [])]]
theorem ok_X9_hedge : am_ck 246 bk_X9_hedge ck_X9_hedge = true := am_ckD (by decide +kernel)
theorem ml_X9_hedge : am_ml 246 = 3 := by decide +kernel
theorem pn_X9_hedge : plainName (am_y 246).cls = true := by decide +kernel
/-- PaceBorderModel.gameBy(IIII)I: number 247, loop heads [] -/
noncomputable def bl_X9_gameBy_0 : am_B := (0, [(.aload_n 0, []), (.iload_n 2, []), (.aload_n 0, []), (.getfield 7, [9, 0, 2]), (.iconst 0, []), (.iaload, []), (.iload_n 1, []), (.iadd, []), (.iload_n 3, []), (.iload 4, []), (.invokevirtual 149, [196, 4, 9, 1]), (.istore 5, []), (.aload_n 0, []), (.getfield 267, [9, 30, 0]), (.iload_n 3, []), (.iload 4, []), (.isub, []), (.imul, []), (.aload_n 0, []), (.getfield 57, [9, 28, 2]), (.bipush 13, []), (.iload_n 1, []), (.iconst 1, []), (.iadd, []), (.imul, []), (.iload 5, []), (.iadd, []), (.iaload, []), (.iadd, []), (.ireturn, [0])], none)
noncomputable def bk_X9_gameBy : List am_B := [bl_X9_gameBy_0]
noncomputable def ck_X9_gameBy : List (List (Nat × List Nat)) := [[(1, []), (1, []), (1, []), (3, [1067]), (1, []), (1, []), (1, []), (1, []), (1, []), (2, []), (3, [1307, 1309, 51, 91]), (2, []), (1, []), (3, [1097]), (1, []), (2, []), (1, []), (1, []), (1, []), (3, [1095]), (2, []), (1, []), (1, []), (1, []), (1, []), (2, []), (1, []), (1, []), (1, []), (1, [])]]
theorem ok_X9_gameBy : am_ck 247 bk_X9_gameBy ck_X9_gameBy = true := am_ckD (by decide +kernel)
theorem ml_X9_gameBy : am_ml 247 = 6 := by decide +kernel
theorem pn_X9_gameBy : plainName (am_y 247).cls = true := by decide +kernel
/-- PaceBorderModel.answerTo(III)I: number 248, loop heads [1] -/
noncomputable def bl_X9_answerTo_0 : am_B := (0, [(.iconst 0, []), (.istore 4, []), (.iconst 1, []), (.istore 5, [])], some 1001)
noncomputable def bl_X9_answerTo_1 : am_B := (6, [(.iload 5, []), (.iconst 4, []), (.if_icmp .ge 39, [1006, 2])], none)
noncomputable def bl_X9_answerTo_2 : am_B := (12, [(.aload_n 0, []), (.iload_n 1, []), (.iload_n 2, []), (.iload_n 3, []), (.iload 5, []), (.invokevirtual 270, [247, 4, 9, 1]), (.aload_n 0, []), (.iload_n 1, []), (.iload_n 2, []), (.iload_n 3, []), (.iload 4, []), (.invokevirtual 270, [247, 4, 9, 1]), (.if_icmp .ge 8, [4, 3])], none)
noncomputable def bl_X9_answerTo_3 : am_B := (33, [(.iload 5, []), (.goto 5, [5])], none)
noncomputable def bl_X9_answerTo_4 : am_B := (38, [(.iload 4, [])], some 5)
noncomputable def bl_X9_answerTo_5 : am_B := (40, [(.istore 4, []), (.iinc 5 1, []), (.goto (-39), [1001])], none)
noncomputable def bl_X9_answerTo_6 : am_B := (48, [(.iload 4, []), (.ireturn, [0])], none)
noncomputable def bk_X9_answerTo : List am_B := [bl_X9_answerTo_0, bl_X9_answerTo_1, bl_X9_answerTo_2, bl_X9_answerTo_3, bl_X9_answerTo_4, bl_X9_answerTo_5, bl_X9_answerTo_6]
noncomputable def ck_X9_answerTo : List (List (Nat × List Nat)) := [[(1, []), (2, []), (1, []), (2, [])],
  [(2, []), (1, []), (3, [])],
  [(1, []), (1, []), (1, []), (1, []), (2, []), (3, [1501, 1503, 73, 91]), (1, []), (1, []), (1, []), (1, []), (2, []), (3, [1501, 1503, 73, 91]), (3, [])],
  [(2, []), (3, [])],
  [(2, [])],
  [(2, []), (3, []), (3, [])],
  [(2, []), (1, [])]]
theorem ok_X9_answerTo : am_ck 248 bk_X9_answerTo ck_X9_answerTo = true := am_ckD (by decide +kernel)
theorem ml_X9_answerTo : am_ml 248 = 6 := by decide +kernel
theorem pn_X9_answerTo : plainName (am_y 248).cls = true := by decide +kernel
/-- PaceBorderModel.valueOf(III)I: number 249, loop heads [] -/
noncomputable def bl_X9_valueOf_0 : am_B := (0, [(.aload_n 0, []), (.iload_n 1, []), (.iload_n 2, []), (.iload_n 3, []), (.aload_n 0, []), (.iload_n 1, []), (.iload_n 2, []), (.iload_n 3, []), (.invokevirtual 273, [248, 3, 9, 1]), (.invokevirtual 270, [247, 4, 9, 1]), (.ireturn, [0])], none)
noncomputable def bk_X9_valueOf : List am_B := [bl_X9_valueOf_0]
noncomputable def ck_X9_valueOf : List (List (Nat × List Nat)) := [[(1, []), (1, []), (1, []), (1, []), (1, []), (1, []), (1, []), (1, []), (3, [1497, 1499, 72, 91]), (3, [1501, 1503, 73, 91]), (1, [])]]
theorem ok_X9_valueOf : am_ck 249 bk_X9_valueOf ck_X9_valueOf = true := am_ckD (by decide +kernel)
theorem ml_X9_valueOf : am_ml 249 = 4 := by decide +kernel
theorem pn_X9_valueOf : plainName (am_y 249).cls = true := by decide +kernel
/-- PaceBorderModel.firstTo(II)I: number 250, loop heads [1] -/
noncomputable def bl_X9_firstTo_0 : am_B := (0, [(.iconst 0, []), (.istore_n 3, []), (.iconst 1, []), (.istore 4, [])], some 1001)
noncomputable def bl_X9_firstTo_1 : am_B := (5, [(.iload 4, []), (.iconst 4, []), (.if_icmp .ge 34, [1006, 2])], none)
noncomputable def bl_X9_firstTo_2 : am_B := (11, [(.aload_n 0, []), (.iload_n 1, []), (.iload_n 2, []), (.iload 4, []), (.invokevirtual 276, [249, 3, 9, 1]), (.aload_n 0, []), (.iload_n 1, []), (.iload_n 2, []), (.iload_n 3, []), (.invokevirtual 276, [249, 3, 9, 1]), (.if_icmp .le 8, [4, 3])], none)
noncomputable def bl_X9_firstTo_3 : am_B := (29, [(.iload 4, []), (.goto 4, [5])], none)
noncomputable def bl_X9_firstTo_4 : am_B := (34, [(.iload_n 3, [])], some 5)
noncomputable def bl_X9_firstTo_5 : am_B := (35, [(.istore_n 3, []), (.iinc 4 1, []), (.goto (-34), [1001])], none)
noncomputable def bl_X9_firstTo_6 : am_B := (42, [(.iload_n 3, []), (.ireturn, [0])], none)
noncomputable def bk_X9_firstTo : List am_B := [bl_X9_firstTo_0, bl_X9_firstTo_1, bl_X9_firstTo_2, bl_X9_firstTo_3, bl_X9_firstTo_4, bl_X9_firstTo_5, bl_X9_firstTo_6]
noncomputable def ck_X9_firstTo : List (List (Nat × List Nat)) := [[(1, []), (1, []), (1, []), (2, [])],
  [(2, []), (1, []), (3, [])],
  [(1, []), (1, []), (1, []), (2, []), (3, [1493, 1495, 71, 91]), (1, []), (1, []), (1, []), (1, []), (3, [1493, 1495, 71, 91]), (3, [])],
  [(2, []), (3, [])],
  [(1, [])],
  [(1, []), (3, []), (3, [])],
  [(1, []), (1, [])]]
theorem ok_X9_firstTo : am_ck 250 bk_X9_firstTo ck_X9_firstTo = true := am_ckD (by decide +kernel)
theorem ml_X9_firstTo : am_ml 250 = 5 := by decide +kernel
theorem pn_X9_firstTo : plainName (am_y 250).cls = true := by decide +kernel
/-- PaceBorderModel.layGames(II)V: number 251, loop heads [1, 4, 6] -/
noncomputable def bl_X9_layGames_0 : am_B := (0, [(.aload_n 0, []), (.iload_n 1, []), (.putfield 279, [9, 29, 0, 0]), (.aload_n 0, []), (.iload_n 2, []), (.putfield 267, [9, 30, 0, 0]), (.iconst 0, []), (.istore_n 3, [])], some 1001)
noncomputable def bl_X9_layGames_1 : am_B := (12, [(.iload_n 3, []), (.aload_n 0, []), (.getfield 136, [9, 1, 0]), (.if_icmp .gt 28, [1003, 2])], none)
noncomputable def bl_X9_layGames_2 : am_B := (20, [(.aload_n 0, []), (.getfield 57, [9, 28, 2]), (.bipush 13, []), (.iload_n 1, []), (.imul, []), (.iload_n 3, []), (.iadd, []), (.iconst 2, []), (.iload_n 3, []), (.imul, []), (.aload_n 0, []), (.getfield 136, [9, 1, 0]), (.isub, []), (.iastore, []), (.iinc 3 1, []), (.goto (-30), [1001])], none)
noncomputable def bl_X9_layGames_3 : am_B := (45, [(.iload_n 1, []), (.iconst 1, []), (.isub, []), (.istore_n 3, [])], some 1004)
noncomputable def bl_X9_layGames_4 : am_B := (49, [(.iload_n 3, []), (.ifCond .lt 53, [1009, 5])], none)
noncomputable def bl_X9_layGames_5 : am_B := (53, [(.iconst 0, []), (.istore 4, [])], some 1006)
noncomputable def bl_X9_layGames_6 : am_B := (56, [(.iload 4, []), (.aload_n 0, []), (.getfield 136, [9, 1, 0]), (.if_icmp .gt 35, [1008, 7])], none)
noncomputable def bl_X9_layGames_7 : am_B := (65, [(.aload_n 0, []), (.getfield 57, [9, 28, 2]), (.bipush 13, []), (.iload_n 3, []), (.imul, []), (.iload 4, []), (.iadd, []), (.aload_n 0, []), (.iload_n 3, []), (.iload 4, []), (.aload_n 0, []), (.iload_n 3, []), (.iload 4, []), (.invokevirtual 282, [250, 2, 9, 1]), (.invokevirtual 276, [249, 3, 9, 1]), (.iastore, []), (.iinc 4 1, []), (.goto (-38), [1006])], none)
noncomputable def bl_X9_layGames_8 : am_B := (97, [(.iinc 3 (-1), []), (.goto (-51), [1004])], none)
noncomputable def bl_X9_layGames_9 : am_B := (103, [(.return_, [])], none)
noncomputable def bk_X9_layGames : List am_B := [bl_X9_layGames_0, bl_X9_layGames_1, bl_X9_layGames_2, bl_X9_layGames_3, bl_X9_layGames_4, bl_X9_layGames_5, bl_X9_layGames_6, bl_X9_layGames_7, bl_X9_layGames_8, bl_X9_layGames_9]
noncomputable def ck_X9_layGames : List (List (Nat × List Nat)) := [[(1, []), (1, []), (3, [1096]), (1, []), (1, []), (3, [1097]), (1, []), (1, [])],
  [(1, []), (1, []), (3, [1068]), (3, [])],
  [(1, []), (3, [1095]), (2, []), (1, []), (1, []), (1, []), (1, []), (1, []), (1, []), (1, []), (1, []), (3, [1068]), (1, []), (1, []), (3, []), (3, [])],
  [(1, []), (1, []), (1, []), (1, [])],
  [(1, []), (3, [])],
  [(1, []), (2, [])],
  [(2, []), (1, []), (3, [1068]), (3, [])],
  [(1, []), (3, [1095]), (2, []), (1, []), (1, []), (2, []), (1, []), (1, []), (1, []), (2, []), (1, []), (1, []), (2, []), (3, [1489, 1491, 70, 91]), (3, [1493, 1495, 71, 91]), (1, []), (3, []), (3, [])],
  [(3, []), (3, [])],
  [(1, [])]]
theorem ok_X9_layGames : am_ck 251 bk_X9_layGames ck_X9_layGames = true := am_ckD (by decide +kernel)
theorem ml_X9_layGames : am_ml 251 = 5 := by decide +kernel
theorem pn_X9_layGames : plainName (am_y 251).cls = true := by decide +kernel
/-- PaceBorderModel.isGame(III)Z: number 252, loop heads [] -/
noncomputable def bl_X9_isGame_0 : am_B := (0, [(.iload_n 0, []), (.i2l, []), (.iload_n 2, []), (.i2l, []), (.ldc2_w 285, [4]), (.invokestatic 69, [168, 3, 0, 1]), (.ifCond .eq 19, [3, 1])], none)
noncomputable def bl_X9_isGame_1 : am_B := (13, [(.iload_n 1, []), (.i2l, []), (.lconst 0, []), (.ldc2_w 168, [9]), (.invokestatic 69, [168, 3, 0, 1]), (.ifCond .eq 7, [3, 2])], none)
noncomputable def bl_X9_isGame_2 : am_B := (25, [(.iconst 1, []), (.goto 4, [4])], none)
noncomputable def bl_X9_isGame_3 : am_B := (29, [(.iconst 0, [])], some 4)
noncomputable def bl_X9_isGame_4 : am_B := (30, [(.ireturn, [1])], none)
noncomputable def bk_X9_isGame : List am_B := [bl_X9_isGame_0, bl_X9_isGame_1, bl_X9_isGame_2, bl_X9_isGame_3, bl_X9_isGame_4]
noncomputable def ck_X9_isGame : List (List (Nat × List Nat)) := [[(1, []), (1, []), (1, []), (1, []), (3, [1484]), (3, [1169, 1170, 91]), (3, [])],
  [(1, []), (1, []), (1, []), (3, [1295]), (3, [1169, 1170, 91]), (3, [])],
  [(1, []), (3, [])],
  [(1, [])],
  [(1, [])]]
theorem ok_X9_isGame : am_ck 252 bk_X9_isGame ck_X9_isGame = true := am_ckD (by decide +kernel)
theorem ml_X9_isGame : am_ml 252 = 3 := by decide +kernel
theorem pn_X9_isGame : plainName (am_y 252).cls = true := by decide +kernel
/-- PaceBorderModel.game(II)I: number 253, loop heads [] -/
noncomputable def bl_X9_game_0 : am_B := (0, [(.iload_n 1, []), (.iload_n 2, []), (.iconst 0, []), (.invokestatic 287, [252, 3, 0, 1]), (.ifCond .ne 5, [2, 1])], none)
noncomputable def bl_X9_game_1 : am_B := (9, [(.iconst (-1), []), (.ireturn, [0])], none)
noncomputable def bl_X9_game_2 : am_B := (11, [(.aload_n 0, []), (.getfield 136, [9, 1, 0]), (.ifCond .ne 6, [4, 3])], none)
noncomputable def bl_X9_game_3 : am_B := (18, [(.bipush (-4), []), (.ireturn, [0])], none)
noncomputable def bl_X9_game_4 : am_B := (21, [(.aload_n 0, []), (.iload_n 1, []), (.iload_n 2, []), (.invokevirtual 290, [251, 2, 9, 0]), (.aload_n 0, []), (.aload_n 0, []), (.getfield 57, [9, 28, 2]), (.aload_n 0, []), (.getfield 7, [9, 0, 2]), (.iconst 1, []), (.iaload, []), (.iaload, []), (.invokevirtual 91, [171, 1, 9, 1]), (.ireturn, [0])], none)
noncomputable def bk_X9_game : List am_B := [bl_X9_game_0, bl_X9_game_1, bl_X9_game_2, bl_X9_game_3, bl_X9_game_4]
noncomputable def ck_X9_game : List (List (Nat × List Nat)) := [[(1, []), (1, []), (1, []), (3, [1481, 1482, 91]), (3, [])],
  [(1, []), (1, [])],
  [(1, []), (3, [1068]), (3, [])],
  [(2, []), (1, [])],
  [(1, []), (1, []), (1, []), (3, [1485, 1487, 69, 91]), (1, []), (1, []), (3, [1095]), (1, []), (3, [1067]), (1, []), (1, []), (1, []), (3, [1188, 1190, 36, 91]), (1, [])]]
theorem ok_X9_game : am_ck 253 bk_X9_game ck_X9_game = true := am_ckD (by decide +kernel)
theorem ml_X9_game : am_ml 253 = 3 := by decide +kernel
theorem pn_X9_game : plainName (am_y 253).cls = true := by decide +kernel
/-- PaceBorderModel.said(II)I: number 254, loop heads [] -/
noncomputable def bl_X9_said_0 : am_B := (0, [(.iload_n 1, []), (.iload_n 2, []), (.iconst 1, []), (.invokestatic 287, [252, 3, 0, 1]), (.ifCond .ne 5, [2, 1])], none)
noncomputable def bl_X9_said_1 : am_B := (9, [(.iconst (-1), []), (.ireturn, [0])], none)
noncomputable def bl_X9_said_2 : am_B := (11, [(.aload_n 0, []), (.getfield 136, [9, 1, 0]), (.ifCond .ne 6, [4, 3])], none)
noncomputable def bl_X9_said_3 : am_B := (18, [(.bipush (-4), []), (.ireturn, [0])], none)
noncomputable def bl_X9_said_4 : am_B := (21, [(.aload_n 0, []), (.iload_n 1, []), (.iload_n 2, []), (.invokevirtual 290, [251, 2, 9, 0]), (.aload_n 0, []), (.iconst 0, []), (.aload_n 0, []), (.getfield 7, [9, 0, 2]), (.iconst 1, []), (.iaload, []), (.invokevirtual 282, [250, 2, 9, 1]), (.ireturn, [0])], none)
noncomputable def bk_X9_said : List am_B := [bl_X9_said_0, bl_X9_said_1, bl_X9_said_2, bl_X9_said_3, bl_X9_said_4]
noncomputable def ck_X9_said : List (List (Nat × List Nat)) := [[(1, []), (1, []), (1, []), (3, [1481, 1482, 91]), (3, [])],
  [(1, []), (1, [])],
  [(1, []), (3, [1068]), (3, [])],
  [(2, []), (1, [])],
  [(1, []), (1, []), (1, []), (3, [1485, 1487, 69, 91]), (1, []), (1, []), (1, []), (3, [1067]), (1, []), (1, []), (3, [1489, 1491, 70, 91]), (1, [])]]
theorem ok_X9_said : am_ck 254 bk_X9_said ck_X9_said = true := am_ckD (by decide +kernel)
theorem ml_X9_said : am_ml 254 = 3 := by decide +kernel
theorem pn_X9_said : plainName (am_y 254).cls = true := by decide +kernel
/-- PaceBorderModel.calm(II)I: number 255, loop heads [5] -/
noncomputable def bl_X9_calm_0 : am_B := (0, [(.iload_n 1, []), (.iload_n 2, []), (.iconst 0, []), (.invokestatic 287, [252, 3, 0, 1]), (.ifCond .ne 5, [2, 1])], none)
noncomputable def bl_X9_calm_1 : am_B := (9, [(.iconst (-1), []), (.ireturn, [0])], none)
noncomputable def bl_X9_calm_2 : am_B := (11, [(.aload_n 0, []), (.getfield 136, [9, 1, 0]), (.ifCond .ne 6, [4, 3])], none)
noncomputable def bl_X9_calm_3 : am_B := (18, [(.bipush (-4), []), (.ireturn, [0])], none)
noncomputable def bl_X9_calm_4 : am_B := (21, [(.aload_n 0, []), (.iload_n 1, []), (.iload_n 2, []), (.invokevirtual 290, [251, 2, 9, 0]), (.iconst 1, []), (.istore_n 3, []), (.iconst 0, []), (.istore 4, [])], some 1005)
noncomputable def bl_X9_calm_5 : am_B := (32, [(.iload 4, []), (.aload_n 0, []), (.getfield 279, [9, 29, 0]), (.if_icmp .ge 50, [1012, 6])], none)
noncomputable def bl_X9_calm_6 : am_B := (41, [(.iload_n 3, []), (.ifCond .eq 38, [10, 7])], none)
noncomputable def bl_X9_calm_7 : am_B := (45, [(.aload_n 0, []), (.iload 4, []), (.aload_n 0, []), (.getfield 7, [9, 0, 2]), (.iconst 1, []), (.iaload, []), (.invokevirtual 282, [250, 2, 9, 1]), (.ifCond .ne 23, [10, 8])], none)
noncomputable def bl_X9_calm_8 : am_B := (60, [(.aload_n 0, []), (.iload 4, []), (.aload_n 0, []), (.getfield 7, [9, 0, 2]), (.iconst 1, []), (.iaload, []), (.iconst 0, []), (.invokevirtual 273, [248, 3, 9, 1]), (.ifCond .ne 7, [10, 9])], none)
noncomputable def bl_X9_calm_9 : am_B := (76, [(.iconst 1, []), (.goto 4, [11])], none)
noncomputable def bl_X9_calm_10 : am_B := (80, [(.iconst 0, [])], some 11)
noncomputable def bl_X9_calm_11 : am_B := (81, [(.istore_n 3, []), (.iinc 4 1, []), (.goto (-53), [1005])], none)
noncomputable def bl_X9_calm_12 : am_B := (88, [(.iload_n 3, []), (.ifCond .eq 7, [14, 13])], none)
noncomputable def bl_X9_calm_13 : am_B := (92, [(.iconst 1, []), (.goto 4, [15])], none)
noncomputable def bl_X9_calm_14 : am_B := (96, [(.iconst 0, [])], some 15)
noncomputable def bl_X9_calm_15 : am_B := (97, [(.ireturn, [0])], none)
noncomputable def bk_X9_calm : List am_B := [bl_X9_calm_0, bl_X9_calm_1, bl_X9_calm_2, bl_X9_calm_3, bl_X9_calm_4, bl_X9_calm_5, bl_X9_calm_6, bl_X9_calm_7, bl_X9_calm_8, bl_X9_calm_9, bl_X9_calm_10, bl_X9_calm_11, bl_X9_calm_12, bl_X9_calm_13, bl_X9_calm_14, bl_X9_calm_15]
noncomputable def ck_X9_calm : List (List (Nat × List Nat)) := [[(1, []), (1, []), (1, []), (3, [1481, 1482, 91]), (3, [])],
  [(1, []), (1, [])],
  [(1, []), (3, [1068]), (3, [])],
  [(2, []), (1, [])],
  [(1, []), (1, []), (1, []), (3, [1485, 1487, 69, 91]), (1, []), (1, []), (1, []), (2, [])],
  [(2, []), (1, []), (3, [1096]), (3, [])],
  [(1, []), (3, [])],
  [(1, []), (2, []), (1, []), (3, [1067]), (1, []), (1, []), (3, [1489, 1491, 70, 91]), (3, [])],
  [(1, []), (2, []), (1, []), (3, [1067]), (1, []), (1, []), (1, []), (3, [1497, 1499, 72, 91]), (3, [])],
  [(1, []), (3, [])],
  [(1, [])],
  [(1, []), (3, []), (3, [])],
  [(1, []), (3, [])],
  [(1, []), (3, [])],
  [(1, [])],
  [(1, [])]]
theorem ok_X9_calm : am_ck 255 bk_X9_calm ck_X9_calm = true := am_ckD (by decide +kernel)
theorem ml_X9_calm : am_ml 255 = 5 := by decide +kernel
theorem pn_X9_calm : plainName (am_y 255).cls = true := by decide +kernel
/-- PaceBorderModel.law(II)I: number 256, loop heads [] -/
noncomputable def bl_X9_law_0 : am_B := (0, [(.aload_n 0, []), (.iload_n 1, []), (.invokevirtual 139, [194, 1, 9, 1]), (.ifCond .eq 7, [2, 1])], none)
noncomputable def bl_X9_law_1 : am_B := (8, [(.iload_n 2, []), (.ifCond .ge 5, [3, 2])], none)
noncomputable def bl_X9_law_2 : am_B := (12, [(.iconst (-1), []), (.ireturn, [0])], none)
noncomputable def bl_X9_law_3 : am_B := (14, [(.iload_n 2, []), (.aload_n 0, []), (.getfield 7, [9, 0, 2]), (.iconst 0, []), (.iaload, []), (.if_icmp .le 6, [5, 4])], none)
noncomputable def bl_X9_law_4 : am_B := (24, [(.bipush (-4), []), (.ireturn, [0])], none)
noncomputable def bl_X9_law_5 : am_B := (27, [(.aload_n 0, []), (.iload_n 2, []), (.invokevirtual 293, [213, 1, 9, 1]), (.istore_n 3, []), (.aload_n 0, []), (.getfield 13, [9, 2, 2]), (.iload_n 1, []), (.iaload, []), (.iconst 5, []), (.if_icmp .ne 15, [8, 6])], none)
noncomputable def bl_X9_law_6 : am_B := (43, [(.iload_n 3, []), (.iload_n 1, []), (.invokestatic 145, [197, 2, 0, 1]), (.ifCond .eq 7, [8, 7])], none)
noncomputable def bl_X9_law_7 : am_B := (51, [(.iconst 3, []), (.goto 13, [11])], none)
noncomputable def bl_X9_law_8 : am_B := (55, [(.iload_n 1, []), (.iload_n 3, []), (.if_icmp .ge 7, [10, 9])], none)
noncomputable def bl_X9_law_9 : am_B := (60, [(.iconst 1, []), (.goto 4, [11])], none)
noncomputable def bl_X9_law_10 : am_B := (64, [(.iconst 2, [])], some 11)
noncomputable def bl_X9_law_11 : am_B := (65, [(.ireturn, [0])], none)
noncomputable def bk_X9_law : List am_B := [bl_X9_law_0, bl_X9_law_1, bl_X9_law_2, bl_X9_law_3, bl_X9_law_4, bl_X9_law_5, bl_X9_law_6, bl_X9_law_7, bl_X9_law_8, bl_X9_law_9, bl_X9_law_10, bl_X9_law_11]
noncomputable def ck_X9_law : List (List (Nat × List Nat)) := [[(1, []), (1, []), (3, [1264, 1266, 45, 91]), (3, [])],
  [(1, []), (3, [])],
  [(1, []), (1, [])],
  [(1, []), (1, []), (3, [1067]), (1, []), (1, []), (3, [])],
  [(2, []), (1, [])],
  [(1, []), (1, []), (3, [1517, 1334, 1335, 91]), (1, []), (1, []), (3, [1069]), (1, []), (1, []), (1, []), (3, [])],
  [(1, []), (1, []), (3, [1280, 1281, 91]), (3, [])],
  [(1, []), (3, [])],
  [(1, []), (1, []), (3, [])],
  [(1, []), (3, [])],
  [(1, [])],
  [(1, [])]]
theorem ok_X9_law : am_ck 256 bk_X9_law ck_X9_law = true := am_ckD (by decide +kernel)
theorem ml_X9_law : am_ml 256 = 4 := by decide +kernel
theorem pn_X9_law : plainName (am_y 256).cls = true := by decide +kernel
/-- PaceBorderModel.broughtTo(II)I: number 257, loop heads [1] -/
noncomputable def bl_X9_broughtTo_0 : am_B := (0, [(.iload_n 1, []), (.istore_n 3, []), (.iconst 0, []), (.istore 4, [])], some 1001)
noncomputable def bl_X9_broughtTo_1 : am_B := (5, [(.iload 4, []), (.iload_n 2, []), (.if_icmp .ge 41, [1003, 2])], none)
noncomputable def bl_X9_broughtTo_2 : am_B := (11, [(.aload_n 0, []), (.iload_n 3, []), (.iload 4, []), (.aload_n 0, []), (.getfield 7, [9, 0, 2]), (.bipush 40, []), (.iload 4, []), (.iadd, []), (.iaload, []), (.iconst 4, []), (.idiv, []), (.aload_n 0, []), (.getfield 7, [9, 0, 2]), (.bipush 40, []), (.iload 4, []), (.iadd, []), (.iaload, []), (.iconst 4, []), (.irem, []), (.invokevirtual 149, [196, 4, 9, 1]), (.istore_n 3, []), (.iinc 4 1, []), (.goto (-41), [1001])], none)
noncomputable def bl_X9_broughtTo_3 : am_B := (49, [(.iload_n 3, []), (.ireturn, [0])], none)
noncomputable def bk_X9_broughtTo : List am_B := [bl_X9_broughtTo_0, bl_X9_broughtTo_1, bl_X9_broughtTo_2, bl_X9_broughtTo_3]
noncomputable def ck_X9_broughtTo : List (List (Nat × List Nat)) := [[(1, []), (1, []), (1, []), (2, [])],
  [(2, []), (1, []), (3, [])],
  [(1, []), (1, []), (2, []), (1, []), (3, [1067]), (2, []), (2, []), (1, []), (1, []), (1, []), (1, []), (1, []), (3, [1067]), (2, []), (2, []), (1, []), (1, []), (1, []), (1, []), (3, [1307, 1309, 51, 91]), (1, []), (3, []), (3, [])],
  [(1, []), (1, [])]]
theorem ok_X9_broughtTo : am_ck 257 bk_X9_broughtTo ck_X9_broughtTo = true := am_ckD (by decide +kernel)
theorem ml_X9_broughtTo : am_ml 257 = 5 := by decide +kernel
theorem pn_X9_broughtTo : plainName (am_y 257).cls = true := by decide +kernel
/-- PaceBorderModel.areBooks(I)Z: number 258, loop heads [1] -/
noncomputable def bl_X9_areBooks_0 : am_B := (0, [(.iconst 1, []), (.istore_n 2, []), (.bipush 40, []), (.iload_n 1, []), (.imul, []), (.istore_n 3, [])], some 1001)
noncomputable def bl_X9_areBooks_1 : am_B := (7, [(.iload_n 3, []), (.bipush 40, []), (.iload_n 1, []), (.imul, []), (.aload_n 0, []), (.getfield 19, [9, 4, 2]), (.iload_n 1, []), (.iaload, []), (.iadd, []), (.if_icmp .ge 72, [1009, 2])], none)
noncomputable def bl_X9_areBooks_2 : am_B := (22, [(.iload_n 2, []), (.ifCond .eq 60, [7, 3])], none)
noncomputable def bl_X9_areBooks_3 : am_B := (26, [(.aload_n 0, []), (.getfield 22, [9, 5, 2]), (.iload_n 3, []), (.iaload, []), (.i2l, []), (.lconst 0, []), (.aload_n 0, []), (.getfield 7, [9, 0, 2]), (.iconst 0, []), (.iaload, []), (.i2l, []), (.invokestatic 69, [168, 3, 0, 1]), (.ifCond .eq 39, [7, 4])], none)
noncomputable def bl_X9_areBooks_4 : am_B := (47, [(.aload_n 0, []), (.aload_n 0, []), (.getfield 22, [9, 5, 2]), (.iload_n 3, []), (.iconst 1, []), (.iadd, []), (.iaload, []), (.invokevirtual 139, [194, 1, 9, 1]), (.ifCond .eq 24, [7, 5])], none)
noncomputable def bl_X9_areBooks_5 : am_B := (62, [(.aload_n 0, []), (.getfield 22, [9, 5, 2]), (.iload_n 3, []), (.iconst 2, []), (.iadd, []), (.iaload, []), (.i2l, []), (.lconst 0, []), (.lconst 1, []), (.invokestatic 69, [168, 3, 0, 1]), (.ifCond .eq 7, [7, 6])], none)
noncomputable def bl_X9_areBooks_6 : am_B := (79, [(.iconst 1, []), (.goto 4, [8])], none)
noncomputable def bl_X9_areBooks_7 : am_B := (83, [(.iconst 0, [])], some 8)
noncomputable def bl_X9_areBooks_8 : am_B := (84, [(.istore_n 2, []), (.iinc 3 3, []), (.goto (-81), [1001])], none)
noncomputable def bl_X9_areBooks_9 : am_B := (91, [(.iload_n 2, []), (.ireturn, [1])], none)
noncomputable def bk_X9_areBooks : List am_B := [bl_X9_areBooks_0, bl_X9_areBooks_1, bl_X9_areBooks_2, bl_X9_areBooks_3, bl_X9_areBooks_4, bl_X9_areBooks_5, bl_X9_areBooks_6, bl_X9_areBooks_7, bl_X9_areBooks_8, bl_X9_areBooks_9]
noncomputable def ck_X9_areBooks : List (List (Nat × List Nat)) := [[(1, []), (1, []), (2, []), (1, []), (1, []), (1, [])],
  [(1, []), (2, []), (1, []), (1, []), (1, []), (3, [1071]), (1, []), (1, []), (1, []), (3, [])],
  [(1, []), (3, [])],
  [(1, []), (3, [1072]), (1, []), (1, []), (1, []), (1, []), (1, []), (3, [1067]), (1, []), (1, []), (1, []), (3, [1169, 1170, 91]), (3, [])],
  [(1, []), (1, []), (3, [1072]), (1, []), (1, []), (1, []), (1, []), (3, [1264, 1266, 45, 91]), (3, [])],
  [(1, []), (3, [1072]), (1, []), (1, []), (1, []), (1, []), (1, []), (1, []), (1, []), (3, [1169, 1170, 91]), (3, [])],
  [(1, []), (3, [])],
  [(1, [])],
  [(1, []), (3, []), (3, [])],
  [(1, []), (1, [])]]
theorem ok_X9_areBooks : am_ck 258 bk_X9_areBooks ck_X9_areBooks = true := am_ckD (by decide +kernel)
theorem ml_X9_areBooks : am_ml 258 = 4 := by decide +kernel
theorem pn_X9_areBooks : plainName (am_y 258).cls = true := by decide +kernel
/-- PaceBorderModel.books(I)I: number 259, loop heads [11, 13] -/
noncomputable def bl_X9_books_0 : am_B := (0, [(.iload_n 1, []), (.invokestatic 75, [172, 1, 0, 1]), (.ifCond .ne 5, [2, 1])], none)
noncomputable def bl_X9_books_1 : am_B := (7, [(.iconst (-1), []), (.ireturn, [0])], none)
noncomputable def bl_X9_books_2 : am_B := (9, [(.aload_n 0, []), (.getfield 136, [9, 1, 0]), (.ifCond .ne 6, [4, 3])], none)
noncomputable def bl_X9_books_3 : am_B := (16, [(.bipush (-4), []), (.ireturn, [0])], none)
noncomputable def bl_X9_books_4 : am_B := (19, [(.aload_n 0, []), (.getfield 19, [9, 4, 2]), (.iload_n 1, []), (.iaload, []), (.ifCond .ge 9, [6, 5])], none)
noncomputable def bl_X9_books_5 : am_B := (28, [(.aload_n 0, []), (.iconst 1, []), (.invokevirtual 79, [170, 1, 9, 1]), (.ireturn, [0])], none)
noncomputable def bl_X9_books_6 : am_B := (34, [(.aload_n 0, []), (.getfield 19, [9, 4, 2]), (.iload_n 1, []), (.iaload, []), (.iconst 3, []), (.irem, []), (.ifCond .eq 9, [8, 7])], none)
noncomputable def bl_X9_books_7 : am_B := (45, [(.aload_n 0, []), (.iconst 5, []), (.invokevirtual 79, [170, 1, 9, 1]), (.ireturn, [0])], none)
noncomputable def bl_X9_books_8 : am_B := (51, [(.aload_n 0, []), (.iload_n 1, []), (.invokevirtual 296, [258, 1, 9, 1]), (.ifCond .ne 9, [10, 9])], none)
noncomputable def bl_X9_books_9 : am_B := (59, [(.aload_n 0, []), (.iconst 3, []), (.invokevirtual 79, [170, 1, 9, 1]), (.ireturn, [0])], none)
noncomputable def bl_X9_books_10 : am_B := (65, [(.iconst 0, []), (.istore_n 2, []), (.iconst 0, []), (.istore_n 3, [])], some 1011)
noncomputable def bl_X9_books_11 : am_B := (69, [(.iload_n 3, []), (.aload_n 0, []), (.getfield 136, [9, 1, 0]), (.if_icmp .gt 112, [1026, 12])], none)
noncomputable def bl_X9_books_12 : am_B := (77, [(.iconst 1, []), (.istore 4, []), (.bipush 40, []), (.iload_n 1, []), (.imul, []), (.istore 5, [])], some 1013)
noncomputable def bl_X9_books_13 : am_B := (86, [(.iload 5, []), (.bipush 40, []), (.iload_n 1, []), (.imul, []), (.aload_n 0, []), (.getfield 19, [9, 4, 2]), (.iload_n 1, []), (.iaload, []), (.iadd, []), (.if_icmp .ge 66, [1022, 14])], none)
noncomputable def bl_X9_books_14 : am_B := (102, [(.aload_n 0, []), (.getfield 22, [9, 5, 2]), (.iload 5, []), (.iconst 1, []), (.iadd, []), (.iaload, []), (.aload_n 0, []), (.iload_n 3, []), (.aload_n 0, []), (.getfield 22, [9, 5, 2]), (.iload 5, []), (.iaload, []), (.invokevirtual 299, [257, 2, 9, 1]), (.if_icmp .ge 7, [16, 15])], none)
noncomputable def bl_X9_books_15 : am_B := (126, [(.iconst 0, []), (.goto 4, [17])], none)
noncomputable def bl_X9_books_16 : am_B := (130, [(.iconst 1, [])], some 17)
noncomputable def bl_X9_books_17 : am_B := (131, [(.istore 6, []), (.iload 4, []), (.ifCond .eq 21, [20, 18])], none)
noncomputable def bl_X9_books_18 : am_B := (138, [(.iload 6, []), (.aload_n 0, []), (.getfield 22, [9, 5, 2]), (.iload 5, []), (.iconst 2, []), (.iadd, []), (.iaload, []), (.if_icmp .ne 7, [20, 19])], none)
noncomputable def bl_X9_books_19 : am_B := (152, [(.iconst 1, []), (.goto 4, [21])], none)
noncomputable def bl_X9_books_20 : am_B := (156, [(.iconst 0, [])], some 21)
noncomputable def bl_X9_books_21 : am_B := (157, [(.istore 4, []), (.iinc 5 3, []), (.goto (-76), [1013])], none)
noncomputable def bl_X9_books_22 : am_B := (165, [(.iload_n 2, []), (.iload 4, []), (.ifCond .eq 9, [24, 23])], none)
noncomputable def bl_X9_books_23 : am_B := (171, [(.iconst 1, []), (.iload_n 3, []), (.ishl, []), (.goto 4, [25])], none)
noncomputable def bl_X9_books_24 : am_B := (177, [(.iconst 0, [])], some 25)
noncomputable def bl_X9_books_25 : am_B := (178, [(.ior, []), (.istore_n 2, []), (.iinc 3 1, []), (.goto (-114), [1011])], none)
noncomputable def bl_X9_books_26 : am_B := (186, [(.iload_n 2, []), (.ireturn, [0])], none)
noncomputable def bk_X9_books : List am_B := [bl_X9_books_0, bl_X9_books_1, bl_X9_books_2, bl_X9_books_3, bl_X9_books_4, bl_X9_books_5, bl_X9_books_6, bl_X9_books_7, bl_X9_books_8, bl_X9_books_9, bl_X9_books_10, bl_X9_books_11, bl_X9_books_12, bl_X9_books_13, bl_X9_books_14, bl_X9_books_15, bl_X9_books_16, bl_X9_books_17, bl_X9_books_18, bl_X9_books_19, bl_X9_books_20, bl_X9_books_21, bl_X9_books_22, bl_X9_books_23, bl_X9_books_24, bl_X9_books_25, bl_X9_books_26]
noncomputable def ck_X9_books : List (List (Nat × List Nat)) := [[(1, []), (3, [1165, 1166, 91]), (3, [])],
  [(1, []), (1, [])],
  [(1, []), (3, [1068]), (3, [])],
  [(2, []), (1, [])],
  [(1, []), (3, [1071]), (1, []), (1, []), (3, [])],
  [(1, []), (1, []), (3, [1172, 1174, 33, 91]), (1, [])],
  [(1, []), (3, [1071]), (1, []), (1, []), (1, []), (1, []), (3, [])],
  [(1, []), (1, []), (3, [1172, 1174, 33, 91]), (1, [])],
  [(1, []), (1, []), (3, [1522, 1524, 74, 91]), (3, [])],
  [(1, []), (1, []), (3, [1172, 1174, 33, 91]), (1, [])],
  [(1, []), (1, []), (1, []), (1, [])],
  [(1, []), (1, []), (3, [1068]), (3, [])],
  [(1, []), (2, []), (2, []), (1, []), (1, []), (2, [])],
  [(2, []), (2, []), (1, []), (1, []), (1, []), (3, [1071]), (1, []), (1, []), (1, []), (3, [])],
  [(1, []), (3, [1072]), (2, []), (1, []), (1, []), (1, []), (1, []), (1, []), (1, []), (3, [1072]), (2, []), (1, []), (3, [1526, 1528, 75, 91]), (3, [])],
  [(1, []), (3, [])],
  [(1, [])],
  [(2, []), (2, []), (3, [])],
  [(2, []), (1, []), (3, [1072]), (2, []), (1, []), (1, []), (1, []), (3, [])],
  [(1, []), (3, [])],
  [(1, [])],
  [(2, []), (3, []), (3, [])],
  [(1, []), (2, []), (3, [])],
  [(1, []), (1, []), (1, []), (3, [])],
  [(1, [])],
  [(1, []), (1, []), (3, []), (3, [])],
  [(1, []), (1, [])]]
theorem ok_X9_books : am_ck 259 bk_X9_books ck_X9_books = true := am_ckD (by decide +kernel)
theorem ml_X9_books : am_ml 259 = 7 := by decide +kernel
theorem pn_X9_books : plainName (am_y 259).cls = true := by decide +kernel
/-- PaceBorderModel.kinds(I)I: number 260, loop heads [3] -/
noncomputable def bl_X9_kinds_0 : am_B := (0, [(.aload_n 0, []), (.iload_n 1, []), (.invokevirtual 139, [194, 1, 9, 1]), (.ifCond .ne 5, [2, 1])], none)
noncomputable def bl_X9_kinds_1 : am_B := (8, [(.iconst (-1), []), (.ireturn, [0])], none)
noncomputable def bl_X9_kinds_2 : am_B := (10, [(.aload_n 0, []), (.getfield 13, [9, 2, 2]), (.iload_n 1, []), (.iaload, []), (.istore_n 2, []), (.iconst 0, []), (.istore_n 3, []), (.iconst 0, []), (.istore 4, [])], some 1003)
noncomputable def bl_X9_kinds_3 : am_B := (22, [(.iload 4, []), (.bipush 6, []), (.if_icmp .ge 54, [1008, 4])], none)
noncomputable def bl_X9_kinds_4 : am_B := (29, [(.aload_n 0, []), (.getfield 13, [9, 2, 2]), (.iload_n 1, []), (.iload 4, []), (.iastore, []), (.iload_n 3, []), (.aload_n 0, []), (.aload_n 0, []), (.getfield 7, [9, 0, 2]), (.bipush 120, []), (.iaload, []), (.aload_n 0, []), (.getfield 7, [9, 0, 2]), (.iconst 0, []), (.iaload, []), (.invokevirtual 299, [257, 2, 9, 1]), (.aload_n 0, []), (.getfield 7, [9, 0, 2]), (.iconst 1, []), (.iaload, []), (.if_icmp .ne 10, [6, 5])], none)
noncomputable def bl_X9_kinds_5 : am_B := (64, [(.iconst 1, []), (.iload 4, []), (.ishl, []), (.goto 4, [7])], none)
noncomputable def bl_X9_kinds_6 : am_B := (71, [(.iconst 0, [])], some 7)
noncomputable def bl_X9_kinds_7 : am_B := (72, [(.ior, []), (.istore_n 3, []), (.iinc 4 1, []), (.goto (-55), [1003])], none)
noncomputable def bl_X9_kinds_8 : am_B := (80, [(.aload_n 0, []), (.getfield 13, [9, 2, 2]), (.iload_n 1, []), (.iload_n 2, []), (.iastore, []), (.iload_n 3, []), (.ireturn, [0])], none)
noncomputable def bk_X9_kinds : List am_B := [bl_X9_kinds_0, bl_X9_kinds_1, bl_X9_kinds_2, bl_X9_kinds_3, bl_X9_kinds_4, bl_X9_kinds_5, bl_X9_kinds_6, bl_X9_kinds_7, bl_X9_kinds_8]
noncomputable def ck_X9_kinds : List (List (Nat × List Nat)) := [[(1, []), (1, []), (3, [1264, 1266, 45, 91]), (3, [])],
  [(1, []), (1, [])],
  [(1, []), (3, [1069]), (1, []), (1, []), (1, []), (1, []), (1, []), (1, []), (2, [])],
  [(2, []), (2, []), (3, [])],
  [(1, []), (3, [1069]), (1, []), (2, []), (1, []), (1, []), (1, []), (1, []), (3, [1067]), (2, []), (1, []), (1, []), (3, [1067]), (1, []), (1, []), (3, [1526, 1528, 75, 91]), (1, []), (3, [1067]), (1, []), (1, []), (3, [])],
  [(1, []), (2, []), (1, []), (3, [])],
  [(1, [])],
  [(1, []), (1, []), (3, []), (3, [])],
  [(1, []), (3, [1069]), (1, []), (1, []), (1, []), (1, []), (1, [])]]
theorem ok_X9_kinds : am_ck 260 bk_X9_kinds ck_X9_kinds = true := am_ckD (by decide +kernel)
theorem ml_X9_kinds : am_ml 260 = 5 := by decide +kernel
theorem pn_X9_kinds : plainName (am_y 260).cls = true := by decide +kernel
/-- PaceBorderModel.lots(II)I: number 261, loop heads [8] -/
noncomputable def bl_X9_lots_0 : am_B := (0, [(.iload_n 1, []), (.i2l, []), (.lconst 1, []), (.ldc2_w 238, [20]), (.invokestatic 69, [168, 3, 0, 1]), (.ifCond .eq 15, [2, 1])], none)
noncomputable def bl_X9_lots_1 : am_B := (12, [(.iload_n 2, []), (.i2l, []), (.lconst 1, []), (.ldc2_w 302, [2147483646]), (.invokestatic 69, [168, 3, 0, 1]), (.ifCond .ne 5, [3, 2])], none)
noncomputable def bl_X9_lots_2 : am_B := (24, [(.iconst (-1), []), (.ireturn, [0])], none)
noncomputable def bl_X9_lots_3 : am_B := (26, [(.aload_n 0, []), (.getfield 136, [9, 1, 0]), (.ifCond .ne 6, [5, 4])], none)
noncomputable def bl_X9_lots_4 : am_B := (33, [(.bipush (-4), []), (.ireturn, [0])], none)
noncomputable def bl_X9_lots_5 : am_B := (36, [(.aload_n 0, []), (.getfield 7, [9, 0, 2]), (.iconst 0, []), (.iaload, []), (.iload_n 1, []), (.iadd, []), (.bipush 40, []), (.if_icmp .le 6, [7, 6])], none)
noncomputable def bl_X9_lots_6 : am_B := (49, [(.bipush (-2), []), (.ireturn, [0])], none)
noncomputable def bl_X9_lots_7 : am_B := (52, [(.iload_n 2, []), (.i2l, []), (.lstore_n 3, []), (.iconst 0, []), (.istore 5, [])], some 1008)
noncomputable def bl_X9_lots_8 : am_B := (58, [(.iload 5, []), (.iload_n 1, []), (.if_icmp .ge 40, [1010, 9])], none)
noncomputable def bl_X9_lots_9 : am_B := (64, [(.lload_n 3, []), (.ldc2_w 304, [48271]), (.lmul, []), (.ldc2_w 306, [2147483647]), (.lrem, []), (.lstore_n 3, []), (.aload_n 0, []), (.iconst 0, []), (.lload_n 3, []), (.ldc2_w 285, [4]), (.lrem, []), (.l2i, []), (.lload_n 3, []), (.ldc2_w 252, [16]), (.ldiv, []), (.ldc2_w 285, [4]), (.lrem, []), (.l2i, []), (.invokevirtual 173, [200, 3, 9, 0]), (.iinc 5 1, []), (.goto (-40), [1008])], none)
noncomputable def bl_X9_lots_10 : am_B := (101, [(.aload_n 0, []), (.getfield 7, [9, 0, 2]), (.iconst 1, []), (.iaload, []), (.ireturn, [0])], none)
noncomputable def bk_X9_lots : List am_B := [bl_X9_lots_0, bl_X9_lots_1, bl_X9_lots_2, bl_X9_lots_3, bl_X9_lots_4, bl_X9_lots_5, bl_X9_lots_6, bl_X9_lots_7, bl_X9_lots_8, bl_X9_lots_9, bl_X9_lots_10]
noncomputable def ck_X9_lots : List (List (Nat × List Nat)) := [[(1, []), (1, []), (1, []), (3, [1414]), (3, [1169, 1170, 91]), (3, [])],
  [(1, []), (1, []), (1, []), (3, [1538]), (3, [1169, 1170, 91]), (3, [])],
  [(1, []), (1, [])],
  [(1, []), (3, [1068]), (3, [])],
  [(2, []), (1, [])],
  [(1, []), (3, [1067]), (1, []), (1, []), (1, []), (1, []), (2, []), (3, [])],
  [(2, []), (1, [])],
  [(1, []), (1, []), (1, []), (1, []), (2, [])],
  [(2, []), (1, []), (3, [])],
  [(1, []), (3, [1539]), (1, []), (3, [1540]), (1, []), (1, []), (1, []), (1, []), (1, []), (3, [1484]), (1, []), (1, []), (1, []), (3, [1461]), (1, []), (3, [1484]), (1, []), (1, []), (3, [1303, 1305, 50, 91]), (3, []), (3, [])],
  [(1, []), (3, [1067]), (1, []), (1, []), (1, [])]]
theorem ok_X9_lots : am_ck 261 bk_X9_lots ck_X9_lots = true := am_ckD (by decide +kernel)
theorem ml_X9_lots : am_ml 261 = 6 := by decide +kernel
theorem pn_X9_lots : plainName (am_y 261).cls = true := by decide +kernel
/-- PaceBorderModel.asked()I: number 262, loop heads [] -/
noncomputable def bl_X9_asked_0 : am_B := (0, [(.aload_n 0, []), (.getfield 64, [9, 8, 0]), (.ireturn, [0])], none)
noncomputable def bk_X9_asked : List am_B := [bl_X9_asked_0]
noncomputable def ck_X9_asked : List (List (Nat × List Nat)) := [[(1, []), (3, [1075]), (1, [])]]
theorem ok_X9_asked : am_ck 262 bk_X9_asked ck_X9_asked = true := am_ckD (by decide +kernel)
theorem ml_X9_asked : am_ml 262 = 1 := by decide +kernel
theorem pn_X9_asked : plainName (am_y 262).cls = true := by decide +kernel
/-- PaceBorderModel.upper()J: number 263, loop heads [] -/
noncomputable def bl_X9_upper_0 : am_B := (0, [(.aload_n 0, []), (.getfield 246, [9, 9, 1]), (.lreturn, [])], none)
noncomputable def bk_X9_upper : List am_B := [bl_X9_upper_0]
noncomputable def ck_X9_upper : List (List (Nat × List Nat)) := [[(1, []), (3, [1076]), (1, [])]]
theorem ok_X9_upper : am_ck 263 bk_X9_upper ck_X9_upper = true := am_ckD (by decide +kernel)
theorem ml_X9_upper : am_ml 263 = 1 := by decide +kernel
theorem pn_X9_upper : plainName (am_y 263).cls = true := by decide +kernel
/-- PaceBorderModel.lower()J: number 264, loop heads [] -/
noncomputable def bl_X9_lower_0 : am_B := (0, [(.aload_n 0, []), (.getfield 31, [9, 10, 1]), (.lreturn, [])], none)
noncomputable def bk_X9_lower : List am_B := [bl_X9_lower_0]
noncomputable def ck_X9_lower : List (List (Nat × List Nat)) := [[(1, []), (3, [1077]), (1, [])]]
theorem ok_X9_lower : am_ck 264 bk_X9_lower ck_X9_lower = true := am_ckD (by decide +kernel)
theorem ml_X9_lower : am_ml 264 = 1 := by decide +kernel
theorem pn_X9_lower : plainName (am_y 264).cls = true := by decide +kernel
/-- PaceBorderModel.kindMany(I)I: number 265, loop heads [1] -/
noncomputable def bl_X9_kindMany_0 : am_B := (0, [(.iconst 0, []), (.istore_n 2, []), (.iconst 0, []), (.istore_n 3, [])], some 1001)
noncomputable def bl_X9_kindMany_1 : am_B := (4, [(.iload_n 3, []), (.aload_n 0, []), (.getfield 136, [9, 1, 0]), (.if_icmp .ge 26, [1006, 2])], none)
noncomputable def bl_X9_kindMany_2 : am_B := (12, [(.iload_n 2, []), (.aload_n 0, []), (.iload_n 3, []), (.iload_n 1, []), (.invokevirtual 162, [203, 2, 9, 1]), (.ifCond .eq 7, [4, 3])], none)
noncomputable def bl_X9_kindMany_3 : am_B := (22, [(.iconst 1, []), (.goto 4, [5])], none)
noncomputable def bl_X9_kindMany_4 : am_B := (26, [(.iconst 0, [])], some 5)
noncomputable def bl_X9_kindMany_5 : am_B := (27, [(.iadd, []), (.istore_n 2, []), (.iinc 3 1, []), (.goto (-28), [1001])], none)
noncomputable def bl_X9_kindMany_6 : am_B := (35, [(.iload_n 2, []), (.ireturn, [0])], none)
noncomputable def bk_X9_kindMany : List am_B := [bl_X9_kindMany_0, bl_X9_kindMany_1, bl_X9_kindMany_2, bl_X9_kindMany_3, bl_X9_kindMany_4, bl_X9_kindMany_5, bl_X9_kindMany_6]
noncomputable def ck_X9_kindMany : List (List (Nat × List Nat)) := [[(1, []), (1, []), (1, []), (1, [])],
  [(1, []), (1, []), (3, [1068]), (3, [])],
  [(1, []), (1, []), (1, []), (1, []), (3, [1276, 1278, 47, 91]), (3, [])],
  [(1, []), (3, [])],
  [(1, [])],
  [(1, []), (1, []), (3, []), (3, [])],
  [(1, []), (1, [])]]
theorem ok_X9_kindMany : am_ck 265 bk_X9_kindMany ck_X9_kindMany = true := am_ckD (by decide +kernel)
theorem ml_X9_kindMany : am_ml 265 = 4 := by decide +kernel
theorem pn_X9_kindMany : plainName (am_y 265).cls = true := by decide +kernel
/-- PaceBorderModel.thereOf(I)I: number 266, loop heads [1] -/
noncomputable def bl_X9_thereOf_0 : am_B := (0, [(.iconst 0, []), (.istore_n 2, []), (.iconst 0, []), (.istore_n 3, [])], some 1001)
noncomputable def bl_X9_thereOf_1 : am_B := (4, [(.iload_n 3, []), (.bipush 6, []), (.if_icmp .ge 89, [1016, 2])], none)
noncomputable def bl_X9_thereOf_2 : am_B := (10, [(.iload_n 2, []), (.iload_n 1, []), (.bipush 6, []), (.if_icmp .ne 20, [6, 3])], none)
noncomputable def bl_X9_thereOf_3 : am_B := (17, [(.aload_n 0, []), (.getfield 19, [9, 4, 2]), (.iload_n 3, []), (.iaload, []), (.ifCond .ge 7, [5, 4])], none)
noncomputable def bl_X9_thereOf_4 : am_B := (26, [(.iconst 0, []), (.goto 61, [15])], none)
noncomputable def bl_X9_thereOf_5 : am_B := (30, [(.iconst 1, []), (.goto 57, [15])], none)
noncomputable def bl_X9_thereOf_6 : am_B := (34, [(.iload_n 1, []), (.bipush 7, []), (.if_icmp .ne 25, [11, 7])], none)
noncomputable def bl_X9_thereOf_7 : am_B := (40, [(.iload_n 3, []), (.iconst 4, []), (.if_icmp .ge 16, [10, 8])], none)
noncomputable def bl_X9_thereOf_8 : am_B := (45, [(.aload_n 0, []), (.getfield 25, [9, 6, 2]), (.iload_n 3, []), (.iaload, []), (.ifCond .lt 7, [10, 9])], none)
noncomputable def bl_X9_thereOf_9 : am_B := (54, [(.iconst 1, []), (.goto 33, [15])], none)
noncomputable def bl_X9_thereOf_10 : am_B := (58, [(.iconst 0, []), (.goto 29, [15])], none)
noncomputable def bl_X9_thereOf_11 : am_B := (62, [(.iload_n 3, []), (.iconst 3, []), (.if_icmp .ge 23, [14, 12])], none)
noncomputable def bl_X9_thereOf_12 : am_B := (67, [(.aload_n 0, []), (.getfield 7, [9, 0, 2]), (.bipush 121, []), (.iconst 1, []), (.iload_n 3, []), (.iadd, []), (.imul, []), (.iconst 0, []), (.iadd, []), (.iaload, []), (.ifCond .lt 7, [14, 13])], none)
noncomputable def bl_X9_thereOf_13 : am_B := (83, [(.iconst 1, []), (.goto 4, [15])], none)
noncomputable def bl_X9_thereOf_14 : am_B := (87, [(.iconst 0, [])], some 15)
noncomputable def bl_X9_thereOf_15 : am_B := (88, [(.iadd, []), (.istore_n 2, []), (.iinc 3 1, []), (.goto (-89), [1001])], none)
noncomputable def bl_X9_thereOf_16 : am_B := (96, [(.iload_n 2, []), (.ireturn, [0])], none)
noncomputable def bk_X9_thereOf : List am_B := [bl_X9_thereOf_0, bl_X9_thereOf_1, bl_X9_thereOf_2, bl_X9_thereOf_3, bl_X9_thereOf_4, bl_X9_thereOf_5, bl_X9_thereOf_6, bl_X9_thereOf_7, bl_X9_thereOf_8, bl_X9_thereOf_9, bl_X9_thereOf_10, bl_X9_thereOf_11, bl_X9_thereOf_12, bl_X9_thereOf_13, bl_X9_thereOf_14, bl_X9_thereOf_15, bl_X9_thereOf_16]
noncomputable def ck_X9_thereOf : List (List (Nat × List Nat)) := [[(1, []), (1, []), (1, []), (1, [])],
  [(1, []), (2, []), (3, [])],
  [(1, []), (1, []), (2, []), (3, [])],
  [(1, []), (3, [1071]), (1, []), (1, []), (3, [])],
  [(1, []), (3, [])],
  [(1, []), (3, [])],
  [(1, []), (2, []), (3, [])],
  [(1, []), (1, []), (3, [])],
  [(1, []), (3, [1073]), (1, []), (1, []), (3, [])],
  [(1, []), (3, [])],
  [(1, []), (3, [])],
  [(1, []), (1, []), (3, [])],
  [(1, []), (3, [1067]), (2, []), (1, []), (1, []), (1, []), (1, []), (1, []), (1, []), (1, []), (3, [])],
  [(1, []), (3, [])],
  [(1, [])],
  [(1, []), (1, []), (3, []), (3, [])],
  [(1, []), (1, [])]]
theorem ok_X9_thereOf : am_ck 266 bk_X9_thereOf ck_X9_thereOf = true := am_ckD (by decide +kernel)
theorem ml_X9_thereOf : am_ml 266 = 4 := by decide +kernel
theorem pn_X9_thereOf : plainName (am_y 266).cls = true := by decide +kernel
/-- PaceBorderModel.countOf(I)I: number 267, loop heads [] -/
noncomputable def bl_X9_countOf_0 : am_B := (0, [(.iload_n 1, []), (.tableswitch 74 0 5 #[39, 44, 51, 51, 62, 68], [6, 1, 2, 3, 3, 4, 5])], none)
noncomputable def bl_X9_countOf_1 : am_B := (40, [(.aload_n 0, []), (.getfield 136, [9, 1, 0]), (.ireturn, [0])], none)
noncomputable def bl_X9_countOf_2 : am_B := (45, [(.aload_n 0, []), (.getfield 7, [9, 0, 2]), (.iconst 0, []), (.iaload, []), (.ireturn, [0])], none)
noncomputable def bl_X9_countOf_3 : am_B := (52, [(.aload_n 0, []), (.getfield 7, [9, 0, 2]), (.iconst 2, []), (.iload_n 1, []), (.iadd, []), (.iconst 2, []), (.isub, []), (.iaload, []), (.ireturn, [0])], none)
noncomputable def bl_X9_countOf_4 : am_B := (63, [(.aload_n 0, []), (.iconst 1, []), (.invokevirtual 308, [265, 1, 9, 1]), (.ireturn, [0])], none)
noncomputable def bl_X9_countOf_5 : am_B := (69, [(.aload_n 0, []), (.iconst 2, []), (.invokevirtual 308, [265, 1, 9, 1]), (.ireturn, [0])], none)
noncomputable def bl_X9_countOf_6 : am_B := (75, [(.aload_n 0, []), (.iload_n 1, []), (.invokevirtual 311, [266, 1, 9, 1]), (.ireturn, [0])], none)
noncomputable def bk_X9_countOf : List am_B := [bl_X9_countOf_0, bl_X9_countOf_1, bl_X9_countOf_2, bl_X9_countOf_3, bl_X9_countOf_4, bl_X9_countOf_5, bl_X9_countOf_6]
noncomputable def ck_X9_countOf : List (List (Nat × List Nat)) := [[(1, []), (39, [])],
  [(1, []), (3, [1068]), (1, [])],
  [(1, []), (3, [1067]), (1, []), (1, []), (1, [])],
  [(1, []), (3, [1067]), (1, []), (1, []), (1, []), (1, []), (1, []), (1, []), (1, [])],
  [(1, []), (1, []), (3, [1562, 1564, 77, 91]), (1, [])],
  [(1, []), (1, []), (3, [1562, 1564, 77, 91]), (1, [])],
  [(1, []), (1, []), (3, [1566, 1568, 78, 91]), (1, [])]]
theorem ok_X9_countOf : am_ck 267 bk_X9_countOf ck_X9_countOf = true := am_ckD (by decide +kernel)
theorem ml_X9_countOf : am_ml 267 = 2 := by decide +kernel
theorem pn_X9_countOf : plainName (am_y 267).cls = true := by decide +kernel
/-- PaceBorderModel.count(I)I: number 268, loop heads [] -/
noncomputable def bl_X9_count_0 : am_B := (0, [(.iload_n 1, []), (.i2l, []), (.lconst 0, []), (.ldc2_w 314, [8]), (.invokestatic 69, [168, 3, 0, 1]), (.ifCond .eq 11, [2, 1])], none)
noncomputable def bl_X9_count_1 : am_B := (12, [(.aload_n 0, []), (.iload_n 1, []), (.invokevirtual 316, [267, 1, 9, 1]), (.goto 4, [3])], none)
noncomputable def bl_X9_count_2 : am_B := (20, [(.iconst (-1), [])], some 3)
noncomputable def bl_X9_count_3 : am_B := (21, [(.ireturn, [0])], none)
noncomputable def bk_X9_count : List am_B := [bl_X9_count_0, bl_X9_count_1, bl_X9_count_2, bl_X9_count_3]
noncomputable def ck_X9_count : List (List (Nat × List Nat)) := [[(1, []), (1, []), (1, []), (3, [1557]), (3, [1169, 1170, 91]), (3, [])],
  [(1, []), (1, []), (3, [1558, 1560, 76, 91]), (3, [])],
  [(1, [])],
  [(1, [])]]
theorem ok_X9_count : am_ck 268 bk_X9_count ck_X9_count = true := am_ckD (by decide +kernel)
theorem ml_X9_count : am_ml 268 = 2 := by decide +kernel
theorem pn_X9_count : plainName (am_y 268).cls = true := by decide +kernel
/-- PaceBorderModel.finding()I: number 269, loop heads [] -/
noncomputable def bl_X9_finding_0 : am_B := (0, [(.aload_n 0, []), (.getfield 60, [9, 11, 0]), (.ireturn, [0])], none)
noncomputable def bk_X9_finding : List am_B := [bl_X9_finding_0]
noncomputable def ck_X9_finding : List (List (Nat × List Nat)) := [[(1, []), (3, [1078]), (1, [])]]
theorem ok_X9_finding : am_ck 269 bk_X9_finding ck_X9_finding = true := am_ckD (by decide +kernel)
theorem ml_X9_finding : am_ml 269 = 1 := by decide +kernel
theorem pn_X9_finding : plainName (am_y 269).cls = true := by decide +kernel
/-- PaceBorderModel.findings(I)I: number 270, loop heads [] -/
noncomputable def bl_X9_findings_0 : am_B := (0, [(.iload_n 1, []), (.i2l, []), (.lconst 1, []), (.ldc2_w 67, [5]), (.invokestatic 69, [168, 3, 0, 1]), (.ifCond .eq 12, [2, 1])], none)
noncomputable def bl_X9_findings_1 : am_B := (12, [(.aload_n 0, []), (.getfield 35, [9, 12, 2]), (.iload_n 1, []), (.iaload, []), (.goto 4, [3])], none)
noncomputable def bl_X9_findings_2 : am_B := (21, [(.iconst (-1), [])], some 3)
noncomputable def bl_X9_findings_3 : am_B := (22, [(.ireturn, [0])], none)
noncomputable def bk_X9_findings : List am_B := [bl_X9_findings_0, bl_X9_findings_1, bl_X9_findings_2, bl_X9_findings_3]
noncomputable def ck_X9_findings : List (List (Nat × List Nat)) := [[(1, []), (1, []), (1, []), (3, [1168]), (3, [1169, 1170, 91]), (3, [])],
  [(1, []), (3, [1079]), (1, []), (1, []), (3, [])],
  [(1, [])],
  [(1, [])]]
theorem ok_X9_findings : am_ck 270 bk_X9_findings ck_X9_findings = true := am_ckD (by decide +kernel)
theorem ml_X9_findings : am_ml 270 = 2 := by decide +kernel
theorem pn_X9_findings : plainName (am_y 270).cls = true := by decide +kernel
/-- PaceBorderModel.digest()J: number 271, loop heads [1, 4, 7, 10, 12, 16, 18] -/
noncomputable def bl_X9_digest_0 : am_B := (0, [(.ldc2_w 319, [17]), (.lstore_n 1, []), (.iconst 0, []), (.istore_n 3, [])], some 1001)
noncomputable def bl_X9_digest_1 : am_B := (6, [(.iload_n 3, []), (.bipush 9, []), (.if_icmp .ge 22, [1003, 2])], none)
noncomputable def bl_X9_digest_2 : am_B := (12, [(.ldc2_w 321, [31]), (.lload_n 1, []), (.lmul, []), (.aload_n 0, []), (.iload_n 3, []), (.invokevirtual 316, [267, 1, 9, 1]), (.i2l, []), (.ladd, []), (.lstore_n 1, []), (.iinc 3 1, []), (.goto (-22), [1001])], none)
noncomputable def bl_X9_digest_3 : am_B := (31, [(.ldc2_w 321, [31]), (.lload_n 1, []), (.lmul, []), (.aload_n 0, []), (.getfield 7, [9, 0, 2]), (.iconst 1, []), (.iaload, []), (.i2l, []), (.ladd, []), (.lstore_n 1, []), (.iconst 0, []), (.istore_n 3, [])], some 1004)
noncomputable def bl_X9_digest_4 : am_B := (47, [(.iload_n 3, []), (.bipush 6, []), (.aload_n 0, []), (.getfield 136, [9, 1, 0]), (.imul, []), (.if_icmp .ge 29, [1006, 5])], none)
noncomputable def bl_X9_digest_5 : am_B := (58, [(.ldc2_w 321, [31]), (.lload_n 1, []), (.lmul, []), (.aload_n 0, []), (.iload_n 3, []), (.bipush 6, []), (.idiv, []), (.iload_n 3, []), (.bipush 6, []), (.irem, []), (.invokevirtual 159, [202, 2, 9, 1]), (.i2l, []), (.ladd, []), (.lstore_n 1, []), (.iinc 3 1, []), (.goto (-34), [1004])], none)
noncomputable def bl_X9_digest_6 : am_B := (84, [(.iconst 1, []), (.istore_n 3, [])], some 1007)
noncomputable def bl_X9_digest_7 : am_B := (86, [(.iload_n 3, []), (.iconst 4, []), (.if_icmp .ge 28, [1009, 8])], none)
noncomputable def bl_X9_digest_8 : am_B := (91, [(.ldc2_w 321, [31]), (.lload_n 1, []), (.lmul, []), (.aload_n 0, []), (.getfield 7, [9, 0, 2]), (.bipush 121, []), (.iload_n 3, []), (.imul, []), (.iconst 0, []), (.iadd, []), (.iaload, []), (.i2l, []), (.ladd, []), (.lstore_n 1, []), (.iinc 3 1, []), (.goto (-27), [1007])], none)
noncomputable def bl_X9_digest_9 : am_B := (116, [(.iconst 0, []), (.istore_n 3, [])], some 1010)
noncomputable def bl_X9_digest_10 : am_B := (118, [(.iload_n 3, []), (.bipush 6, []), (.if_icmp .ge 63, [1015, 11])], none)
noncomputable def bl_X9_digest_11 : am_B := (124, [(.ldc2_w 321, [31]), (.lload_n 1, []), (.lmul, []), (.aload_n 0, []), (.getfield 19, [9, 4, 2]), (.iload_n 3, []), (.iaload, []), (.i2l, []), (.ladd, []), (.lstore_n 1, []), (.iconst 0, []), (.istore 4, [])], some 1012)
noncomputable def bl_X9_digest_12 : am_B := (141, [(.iload 4, []), (.aload_n 0, []), (.getfield 19, [9, 4, 2]), (.iload_n 3, []), (.iaload, []), (.if_icmp .ge 29, [1014, 13])], none)
noncomputable def bl_X9_digest_13 : am_B := (152, [(.ldc2_w 321, [31]), (.lload_n 1, []), (.lmul, []), (.aload_n 0, []), (.getfield 22, [9, 5, 2]), (.bipush 40, []), (.iload_n 3, []), (.imul, []), (.iload 4, []), (.iadd, []), (.iaload, []), (.i2l, []), (.ladd, []), (.lstore_n 1, []), (.iinc 4 1, []), (.goto (-34), [1012])], none)
noncomputable def bl_X9_digest_14 : am_B := (178, [(.iinc 3 1, []), (.goto (-63), [1010])], none)
noncomputable def bl_X9_digest_15 : am_B := (184, [(.iconst 0, []), (.istore_n 3, [])], some 1016)
noncomputable def bl_X9_digest_16 : am_B := (186, [(.iload_n 3, []), (.iconst 4, []), (.if_icmp .ge 63, [1021, 17])], none)
noncomputable def bl_X9_digest_17 : am_B := (191, [(.ldc2_w 321, [31]), (.lload_n 1, []), (.lmul, []), (.aload_n 0, []), (.getfield 25, [9, 6, 2]), (.iload_n 3, []), (.iaload, []), (.i2l, []), (.ladd, []), (.lstore_n 1, []), (.iconst 0, []), (.istore 4, [])], some 1018)
noncomputable def bl_X9_digest_18 : am_B := (208, [(.iload 4, []), (.aload_n 0, []), (.getfield 25, [9, 6, 2]), (.iload_n 3, []), (.iaload, []), (.if_icmp .ge 29, [1020, 19])], none)
noncomputable def bl_X9_digest_19 : am_B := (219, [(.ldc2_w 321, [31]), (.lload_n 1, []), (.lmul, []), (.aload_n 0, []), (.getfield 28, [9, 7, 2]), (.bipush 60, []), (.iload_n 3, []), (.imul, []), (.iload 4, []), (.iadd, []), (.iaload, []), (.i2l, []), (.ladd, []), (.lstore_n 1, []), (.iinc 4 1, []), (.goto (-34), [1018])], none)
noncomputable def bl_X9_digest_20 : am_B := (245, [(.iinc 3 1, []), (.goto (-62), [1016])], none)
noncomputable def bl_X9_digest_21 : am_B := (251, [(.lload_n 1, []), (.lreturn, [])], none)
noncomputable def bk_X9_digest : List am_B := [bl_X9_digest_0, bl_X9_digest_1, bl_X9_digest_2, bl_X9_digest_3, bl_X9_digest_4, bl_X9_digest_5, bl_X9_digest_6, bl_X9_digest_7, bl_X9_digest_8, bl_X9_digest_9, bl_X9_digest_10, bl_X9_digest_11, bl_X9_digest_12, bl_X9_digest_13, bl_X9_digest_14, bl_X9_digest_15, bl_X9_digest_16, bl_X9_digest_17, bl_X9_digest_18, bl_X9_digest_19, bl_X9_digest_20, bl_X9_digest_21]
noncomputable def ck_X9_digest : List (List (Nat × List Nat)) := [[(3, [1582]), (1, []), (1, []), (1, [])],
  [(1, []), (2, []), (3, [])],
  [(3, [1583]), (1, []), (1, []), (1, []), (1, []), (3, [1558, 1560, 76, 91]), (1, []), (1, []), (1, []), (3, []), (3, [])],
  [(3, [1583]), (1, []), (1, []), (1, []), (3, [1067]), (1, []), (1, []), (1, []), (1, []), (1, []), (1, []), (1, [])],
  [(1, []), (2, []), (1, []), (3, [1068]), (1, []), (3, [])],
  [(3, [1583]), (1, []), (1, []), (1, []), (1, []), (2, []), (1, []), (1, []), (2, []), (1, []), (3, [1268, 1270, 46, 91]), (1, []), (1, []), (1, []), (3, []), (3, [])],
  [(1, []), (1, [])],
  [(1, []), (1, []), (3, [])],
  [(3, [1583]), (1, []), (1, []), (1, []), (3, [1067]), (2, []), (1, []), (1, []), (1, []), (1, []), (1, []), (1, []), (1, []), (1, []), (3, []), (3, [])],
  [(1, []), (1, [])],
  [(1, []), (2, []), (3, [])],
  [(3, [1583]), (1, []), (1, []), (1, []), (3, [1071]), (1, []), (1, []), (1, []), (1, []), (1, []), (1, []), (2, [])],
  [(2, []), (1, []), (3, [1071]), (1, []), (1, []), (3, [])],
  [(3, [1583]), (1, []), (1, []), (1, []), (3, [1072]), (2, []), (1, []), (1, []), (2, []), (1, []), (1, []), (1, []), (1, []), (1, []), (3, []), (3, [])],
  [(3, []), (3, [])],
  [(1, []), (1, [])],
  [(1, []), (1, []), (3, [])],
  [(3, [1583]), (1, []), (1, []), (1, []), (3, [1073]), (1, []), (1, []), (1, []), (1, []), (1, []), (1, []), (2, [])],
  [(2, []), (1, []), (3, [1073]), (1, []), (1, []), (3, [])],
  [(3, [1583]), (1, []), (1, []), (1, []), (3, [1074]), (2, []), (1, []), (1, []), (2, []), (1, []), (1, []), (1, []), (1, []), (1, []), (3, []), (3, [])],
  [(3, []), (3, [])],
  [(1, []), (1, [])]]
theorem ok_X9_digest : am_ck 271 bk_X9_digest ck_X9_digest = true := am_ckD (by decide +kernel)
theorem ml_X9_digest : am_ml 271 = 5 := by decide +kernel
theorem pn_X9_digest : plainName (am_y 271).cls = true := by decide +kernel
end
section
/-! The same small machine as a function: what a stretch answers, over the fixed shape sh; calls by a table of functions F. -/
noncomputable abbrev am_Rs : Type := Option (Int × am_M)
noncomputable abbrev am_K : Type := am_Lv → List am_V → am_M → am_Rs
noncomputable def vI (st : List am_V) (K : Int → List am_V → am_Rs) : am_Rs := match st with
  | .inl x :: s => K x s
  | _ => none
noncomputable def vL (st : List am_V) (K : Int → List am_V → am_Rs) : am_Rs := match st with
  | .inr (.inl x) :: s => K x s
  | _ => none
noncomputable def vR (st : List am_V) (K : Nat → List am_V → am_Rs) : am_Rs := match st with
  | .inr (.inr (some a)) :: s => K a s
  | _ => none
noncomputable def vX (st : List am_V) (K : Option Nat → List am_V → am_Rs) : am_Rs := match st with
  | .inr (.inr a) :: s => K a s
  | _ => none
noncomputable def vV (st : List am_V) (K : am_V → List am_V → am_Rs) : am_Rs := match st with
  | v :: s => K v s
  | _ => none
noncomputable def vC (sh : am_Sh) (a : Nat) (K : am_S → am_Rs) : am_Rs := match sh[a]? with
  | some q => K q
  | none => none
noncomputable def vF (r : Option Nat) (K : Nat → am_Rs) : am_Rs := match r with
  | some a => K a
  | none => none
noncomputable def hI (lv : am_Lv) (n : Nat) (K : Int → am_Rs) : am_Rs := match lv[n]? with
  | some (some (.inl x)) => K x
  | _ => none
noncomputable def hL (lv : am_Lv) (n : Nat) (K : Int → am_Rs) : am_Rs := match lv[n]? with
  | some (some (.inr (.inl x))) => K x
  | _ => none
noncomputable def hX (lv : am_Lv) (n : Nat) (K : Option Nat → am_Rs) : am_Rs := match lv[n]? with
  | some (some (.inr (.inr x))) => K x
  | _ => none
noncomputable def vA (n : Nat) (st : List am_V) (K : List am_V → List am_V → am_Rs) : am_Rs := match am_pop n st [] with
  | some q => K q.1 q.2
  | none => none
theorem vI_e {st : List am_V} {K : Int → List am_V → am_Rs} {r : Int × am_M} (h : vI st K = some r) : pI st fun x s => K x s = some r := by
  unfold vI at h; unfold pI; split at h
  · exact h
  · cases h
theorem vL_e {st : List am_V} {K : Int → List am_V → am_Rs} {r : Int × am_M} (h : vL st K = some r) : pL st fun x s => K x s = some r := by
  unfold vL at h; unfold pL; split at h
  · exact h
  · cases h
theorem vR_e {st : List am_V} {K : Nat → List am_V → am_Rs} {r : Int × am_M} (h : vR st K = some r) : pR st fun x s => K x s = some r := by
  unfold vR at h; unfold pR; split at h
  · exact h
  · cases h
theorem vX_e {st : List am_V} {K : Option Nat → List am_V → am_Rs} {r : Int × am_M} (h : vX st K = some r) : pX st fun x s => K x s = some r := by
  unfold vX at h; unfold pX; split at h
  · exact h
  · cases h
theorem vV_e {st : List am_V} {K : am_V → List am_V → am_Rs} {r : Int × am_M} (h : vV st K = some r) : pV st fun x s => K x s = some r := by
  unfold vV at h; unfold pV; split at h
  · exact h
  · cases h
theorem vC_e {sh : am_Sh} {a : Nat} {K : am_S → am_Rs} {r : Int × am_M} (h : vC sh a K = some r) : pC sh a fun q => K q = some r := by
  unfold vC at h; unfold pC; split at h
  · rename_i hq; rw [hq]; exact h
  · cases h
theorem vF_e {x : Option Nat} {K : Nat → am_Rs} {r : Int × am_M} (h : vF x K = some r) : pF x fun q => K q = some r := by
  unfold vF at h; unfold pF; split at h
  · exact h
  · cases h
theorem hI_e {lv : am_Lv} {n : Nat} {K : Int → am_Rs} {r : Int × am_M} (h : hI lv n K = some r) : gI lv n fun x => K x = some r := by
  unfold hI at h; unfold gI; split at h
  · rename_i hq; rw [hq]; exact h
  · cases h
theorem hL_e {lv : am_Lv} {n : Nat} {K : Int → am_Rs} {r : Int × am_M} (h : hL lv n K = some r) : gL lv n fun x => K x = some r := by
  unfold hL at h; unfold gL; split at h
  · rename_i hq; rw [hq]; exact h
  · cases h
theorem hX_e {lv : am_Lv} {n : Nat} {K : Option Nat → am_Rs} {r : Int × am_M} (h : hX lv n K = some r) : gX lv n fun x => K x = some r := by
  unfold hX at h; unfold gX; split at h
  · rename_i hq; rw [hq]; exact h
  · cases h
theorem vA_e {n : Nat} {st : List am_V} {K : List am_V → List am_V → am_Rs} {r : Int × am_M} (h : vA n st K = some r) : pA n st fun as s => K as s = some r := by
  unfold vA at h; unfold pA; split at h
  · rename_i hq; rw [hq]; exact h
  · cases h
theorem pI_m {st : List am_V} {K K' : Int → List am_V → Prop} (h : pI st K) (m : ∀ x s, K x s → K' x s) : pI st K' := by unfold pI at *; split at h <;> first | exact m _ _ h | exact h.elim
theorem pL_m {st : List am_V} {K K' : Int → List am_V → Prop} (h : pL st K) (m : ∀ x s, K x s → K' x s) : pL st K' := by unfold pL at *; split at h <;> first | exact m _ _ h | exact h.elim
theorem pR_m {st : List am_V} {K K' : Nat → List am_V → Prop} (h : pR st K) (m : ∀ x s, K x s → K' x s) : pR st K' := by unfold pR at *; split at h <;> first | exact m _ _ h | exact h.elim
theorem pX_m {st : List am_V} {K K' : Option Nat → List am_V → Prop} (h : pX st K) (m : ∀ x s, K x s → K' x s) : pX st K' := by unfold pX at *; split at h <;> first | exact m _ _ h | exact h.elim
theorem pV_m {st : List am_V} {K K' : am_V → List am_V → Prop} (h : pV st K) (m : ∀ x s, K x s → K' x s) : pV st K' := by unfold pV at *; split at h <;> first | exact m _ _ h | exact h.elim
theorem pC_m {sh : am_Sh} {a : Nat} {K K' : am_S → Prop} (h : pC sh a K) (m : ∀ q, K q → K' q) : pC sh a K' := by unfold pC at *; split at h <;> first | exact m _ h | exact h.elim
theorem pF_m {r : Option Nat} {K K' : Nat → Prop} (h : pF r K) (m : ∀ q, K q → K' q) : pF r K' := by unfold pF at *; split at h <;> first | exact m _ h | exact h.elim
theorem pA_m {n : Nat} {st : List am_V} {K K' : List am_V → List am_V → Prop} (h : pA n st K) (m : ∀ x s, K x s → K' x s) : pA n st K' := by unfold pA at *; split at h <;> first | exact m _ _ h | exact h.elim
theorem if_s {c : Prop} [Decidable c] {a : am_Rs} {r : Int × am_M} (h : (if c then a else none) = some r) : c ∧ a = some r := by
  split at h
  · exact ⟨by assumption, h⟩
  · cases h
/-- which cell stands in a row of cells, by its place -/
noncomputable def vQ : List (Option Nat) → Int → Int → (Nat → am_Rs) → am_Rs
  | [], _, _, _ => none
  | some r :: rs, n, j, K => if j = n then K r else vQ rs (n + 1) j K
  | none :: rs, n, j, K => if j = n then none else vQ rs (n + 1) j K
theorem vQ_e {K : Nat → am_Rs} {r : Int × am_M} {j : Int} : ∀ (rs : List (Option Nat)) (n : Int), vQ rs n j K = some r → ∃ (i a : Nat), i < rs.length ∧ j = n + i ∧ rs.getD i none = some a ∧ K a = some r
  | [], n, h => by cases h
  | some a :: rs, n, h => by
    unfold vQ at h; split at h
    · exact ⟨0, a, by simp, by simp; omega, rfl, h⟩
    · obtain ⟨i, b, h1, h2, h3, h4⟩ := vQ_e rs (n + 1) h
      exact ⟨i + 1, b, by simp; omega, by push_cast; omega, by simpa using h3, h4⟩
  | none :: rs, n, h => by
    unfold vQ at h; split at h
    · cases h
    · obtain ⟨i, b, h1, h2, h3, h4⟩ := vQ_e rs (n + 1) h
      exact ⟨i + 1, b, by simp; omega, by push_cast; omega, by simpa using h3, h4⟩
noncomputable def vP (rk : Nat) (x : Int) (s : List am_V) : List am_V := if rk = 0 then s else if rk = 1 then .inl x :: s else .inr (.inl x) :: s
noncomputable def am_rv (rk : Nat) (x : Int) : Option am_V := if rk = 0 then none else if rk = 1 then some (.inl x) else some (.inr (.inl x))
theorem am_rv_vP (rk : Nat) (x : Int) (s : List am_V) : (am_rv rk x).toList ++ s = vP rk x s := by unfold am_rv vP; split <;> (try split) <;> rfl
noncomputable def vB (c : Jvm.ClassFile.Cond) (x y : Int) (a b : am_Rs) : am_Rs := match c with
  | .eq => if x = y then a else b
  | .ne => if x = y then b else a
  | .lt => if x < y then a else b
  | .ge => if x < y then b else a
  | .gt => if y < x then a else b
  | .le => if y < x then b else a
theorem vB_e {c : Jvm.ClassFile.Cond} {x y : Int} {a b : am_Rs} {r : Int × am_M} (h : vB c x y a b = some r) : (am_cnd c x y → a = some r) ∧ (¬ am_cnd c x y → b = some r) := by
  cases c <;> simp only [vB] at h <;> simp only [am_cnd] <;> split at h <;> rename_i hc <;> refine ⟨fun q => ?_, fun q => ?_⟩ <;> first | exact h | (exact absurd hc (by omega)) | (exact absurd q (by omega))
noncomputable def vS (x : Int) : Int → List Nat → (Nat → am_Rs) → am_Rs → am_Rs
  | _, [], _, d => d
  | lo, t :: ts, K, d => if x = lo then K t else vS x (lo + 1) ts K d
theorem vS_e {x : Int} {K : Nat → am_Rs} {d : am_Rs} {r : Int × am_M} : ∀ (ts : List Nat) (lo : Int), vS x lo ts K d = some r → ((x < lo ∨ lo + ts.length - 1 < x) → d = some r) ∧ am_sw x lo ts fun t => K t = some r
  | [], lo, h => ⟨fun _ => h, trivial⟩
  | t :: ts, lo, h => by
    unfold vS at h
    split at h
    · rename_i e
      refine ⟨fun q => by simp at q; omega, fun _ => h, ?_⟩
      have : ∀ (ts : List Nat) (lo2 : Int), lo < lo2 → am_sw x lo2 ts fun t => K t = some r := by
        intro ts
        induction ts with
        | nil => intro _ _; trivial
        | cons a ts ih => intro lo2 hl; exact ⟨fun q => by omega, ih (lo2 + 1) (by omega)⟩
      exact this ts (lo + 1) (by omega)
    · rename_i e
      obtain ⟨h1, h2⟩ := vS_e ts (lo + 1) h
      exact ⟨fun q => h1 (by simp at q ⊢; omega), fun q => absurd q e, h2⟩
/-- a row of locals made plain before it is handed on -/
noncomputable def am_frc {α : Type} : am_Lv → (am_Lv → α) → α
  | [], K => K []
  | x :: xs, K => am_frc xs fun ys => K (x :: ys)
theorem am_frc_e {α : Type} : ∀ (l : am_Lv) (K : am_Lv → α), am_frc l K = K l
  | [], _ => rfl
  | _ :: xs, K => am_frc_e xs fun ys => K (_ :: ys)
noncomputable def vW (sc : Option (Nat × (Nat → Int))) (sh : am_Sh) (F : Nat → List am_V → am_M → am_Rs) (i : Instr) (f : List Nat) (lv : am_Lv) (st : List am_V) (M : am_M) (N : am_K) (J : Nat → am_K) : am_Rs :=
  match i with
  | .iconst n => N lv (.inl n :: st) M
  | .bipush n => N lv (.inl n :: st) M
  | .sipush n => N lv (.inl n :: st) M
  | .lconst n => (match n with
    | 0 => N lv (.inr (.inl 0) :: st) M
    | 1 => N lv (.inr (.inl 1) :: st) M)
  | .ldc _ => N lv (.inl (Int.ofNat (f.getD 0 0)) :: st) M
  | .ldc_w _ => N lv (.inl (Int.ofNat (f.getD 0 0)) :: st) M
  | .ldc2_w _ => (match f with
    | [n] => N lv (.inr (.inl (Int.ofNat n)) :: st) M
    | [n, _] => N lv (.inr (.inl (-(Int.ofNat n))) :: st) M
    | _ => none)
  | .iload n => hI lv n fun x => N lv (.inl x :: st) M
  | .iload_n n => hI lv n fun x => N lv (.inl x :: st) M
  | .lload n => hL lv n fun x => N lv (.inr (.inl x) :: st) M
  | .lload_n n => hL lv n fun x => N lv (.inr (.inl x) :: st) M
  | .aload n => hX lv n fun x => N lv (.inr (.inr x) :: st) M
  | .aload_n n => hX lv n fun x => N lv (.inr (.inr x) :: st) M
  | .istore n => vI st fun x s => am_frc (am_set lv n (.inl x)) fun lv => N lv s M
  | .istore_n n => vI st fun x s => am_frc (am_set lv n (.inl x)) fun lv => N lv s M
  | .astore n => vX st fun x s => am_frc (am_set lv n (.inr (.inr x))) fun lv => N lv s M
  | .astore_n n => vX st fun x s => am_frc (am_set lv n (.inr (.inr x))) fun lv => N lv s M
  | .lstore n => vL st fun x s => am_frc (am_setL lv n (.inr (.inl x))) fun lv => N lv s M
  | .lstore_n n => vL st fun x s => am_frc (am_setL lv n (.inr (.inl x))) fun lv => N lv s M
  | .iinc n z => hI lv n fun x => am_frc (am_set lv n (.inl (x + z))) fun lv => N lv st M
  | .iadd => vI st fun y s => vI s fun x s => N lv (.inl (x + y) :: s) M
  | .isub => vI st fun y s => vI s fun x s => N lv (.inl (x - y) :: s) M
  | .imul => vI st fun y s => vI s fun x s => N lv (.inl (x * y) :: s) M
  | .idiv => vI st fun y s => vI s fun x s => if wI y ≠ 0 then N lv (.inl ((wI x).tdiv (wI y)) :: s) M else none
  | .irem => vI st fun y s => vI s fun x s => if wI y ≠ 0 then N lv (.inl ((wI x).tmod (wI y)) :: s) M else none
  | .ineg => vI st fun x s => N lv (.inl (-x) :: s) M
  | .iand => vI st fun y s => vI s fun x s => N lv (.inl (b_and_ x y) :: s) M
  | .ior => vI st fun y s => vI s fun x s => N lv (.inl (b_or_ x y) :: s) M
  | .ishl => vI st fun y s => vI s fun x s => N lv (.inl (b_shl_ x y) :: s) M
  | .ishr => vI st fun y s => vI s fun x s => N lv (.inl (b_shr_ x y) :: s) M
  | .ladd => vL st fun y s => vL s fun x s => N lv (.inr (.inl (x + y)) :: s) M
  | .lmul => vL st fun y s => vL s fun x s => N lv (.inr (.inl (x * y)) :: s) M
  | .ldiv => vL st fun y s => vL s fun x s => if wL y ≠ 0 then N lv (.inr (.inl ((wL x).tdiv (wL y))) :: s) M else none
  | .lrem => vL st fun y s => vL s fun x s => if wL y ≠ 0 then N lv (.inr (.inl ((wL x).tmod (wL y))) :: s) M else none
  | .lshl => vI st fun y s => vL s fun x s => N lv (.inr (.inl (b_lshl_ x y)) :: s) M
  | .lcmp => vL st fun y s => vL s fun x s => N lv (.inl (c_lcmp x y) :: s) M
  | .i2l => vI st fun x s => N lv (.inr (.inl (wI x)) :: s) M
  | .l2i => vL st fun x s => N lv (.inl x :: s) M
  | .i2b => vI st fun x s => N lv (.inl (wB x) :: s) M
  | .dup => vV st fun x s => if am_cat x = 1 then N lv (x :: x :: s) M else none
  | .pop => vV st fun x s => if am_cat x = 1 then N lv s M else none
  | .dup2 => vV st fun y s => vV s fun x s => if am_cat y = 1 ∧ am_cat x = 1 then N lv (y :: x :: y :: x :: s) M else none
  | .getfield _ => (match f with
    | [ci, k, fk] => vR st fun a s => vC sh a fun q => if q.1 = ci ∧ k < q.2.1 then (if fk = 2 then vF (q.2.2.getD k none) fun r => N lv (.inr (.inr (some r)) :: s) M else if fk = 1 then N lv (.inr (.inl (M a k)) :: s) M else N lv (.inl (M a k) :: s) M) else none
    | _ => none)
  | .putfield _ => (match f with
    | [ci, k, fk, _] => if fk = 2 then none
      else if fk = 1 then (vL st fun x s => vR s fun a s => vC sh a fun q => if q.1 = ci ∧ k < q.2.1 then N lv s (am_up M a k x) else none)
      else if fk = 3 then (vI st fun x s => vR s fun a s => vC sh a fun q => if q.1 = ci ∧ k < q.2.1 then (if x = 0 ∨ x = 1 then N lv s (am_up M a k x) else none) else none)
      else (vI st fun x s => vR s fun a s => vC sh a fun q => if q.1 = ci ∧ k < q.2.1 then N lv s (am_up M a k x) else none)
    | _ => none)
  | .iaload => vI st fun i s => vX s fun a s => (match a with
    | some a => vC sh a fun q => if q.1 = 10 then (if 0 ≤ wI i ∧ wI i < (q.2.1 : Int) then N lv (.inl (M a (wI i).toNat) :: s) M else none) else none
    | none => (match sc with
      | some c => if 0 ≤ wI i ∧ wI i < (c.1 : Int) then N lv (.inl (c.2 (wI i).toNat) :: s) M else none
      | none => none))
  | .laload => vI st fun i s => vR s fun a s => vC sh a fun q => if q.1 = 11 then (if 0 ≤ wI i ∧ wI i < (q.2.1 : Int) then N lv (.inr (.inl (M a (wI i).toNat)) :: s) M else none) else none
  | .aaload => vI st fun i s => vR s fun a s => vC sh a fun q => if q.1 = 12 ∧ q.2.2.length = q.2.1 then vQ q.2.2 0 (wI i) fun r => N lv (.inr (.inr (some r)) :: s) M else none
  | .iastore => vI st fun x s => vI s fun i s => vR s fun a s => vC sh a fun q => if q.1 = 10 then (if 0 ≤ wI i ∧ wI i < (q.2.1 : Int) then N lv s (am_up M a (wI i).toNat x) else none) else none
  | .lastore => vL st fun x s => vI s fun i s => vR s fun a s => vC sh a fun q => if q.1 = 11 then (if 0 ≤ wI i ∧ wI i < (q.2.1 : Int) then N lv s (am_up M a (wI i).toNat x) else none) else none
  | .arraylength => vX st fun a s => (match a with
    | some a => vC sh a fun q => if q.1 = 10 ∨ q.1 = 11 then N lv (.inl (q.2.1 : Int) :: s) M else none
    | none => (match sc with
      | some c => N lv (.inl (c.1 : Int) :: s) M
      | none => none))
  | .invokevirtual _ => (match f with
    | [k, n, ci, rk] => vA n st fun as r => vR r fun a r => vC sh a fun q => if q.1 = ci ∧ am_cats r ≤ 8 then (F k (.inr (.inr (some a)) :: as) M).bind fun z => N lv (vP rk z.1 r) z.2 else none
    | _ => none)
  | .invokestatic _ => (match f with
    | [k, n, _, rk] => vA n st fun as r => if am_cats r ≤ 8 then (F k as M).bind fun z => N lv (vP rk z.1 r) z.2 else none
    | [_] => vI st fun n s => vI s fun dp s => vR s fun d s => vI s fun sp s => vR s fun s0 s => vC sh s0 fun q0 => vC sh d fun q1 => if (q0.1 = 10 ∧ q1.1 = 10 ∨ q0.1 = 11 ∧ q1.1 = 11) ∧ am_cats s ≤ 8 then (if 0 ≤ wI sp ∧ 0 ≤ wI dp ∧ 0 ≤ wI n ∧ wI sp + wI n ≤ (q0.2.1 : Int) ∧ wI dp + wI n ≤ (q1.2.1 : Int) then N lv s (am_cpy M s0 d (wI sp).toNat (wI dp).toNat (wI n).toNat) else none) else none
    | [z, _] => if z = 2 then (vI st fun x s => if am_cats s ≤ 8 then N lv (.inl (if 0 ≤ wI x then x else 0 - x) :: s) M else none)
      else if z = 1 then (vI st fun y s => vI s fun x s => if am_cats s ≤ 8 then N lv (.inl (if wI y < wI x then y else x) :: s) M else none)
      else (vI st fun y s => vI s fun x s => if am_cats s ≤ 8 then N lv (.inl (if wI x < wI y then y else x) :: s) M else none)
    | _ => none)
  | .goto _ => (match f with
    | [t] => J t lv st M
    | _ => none)
  | .ifCond c _ => (match f with
    | [t, e] => vI st fun x s => vB c (wI x) 0 (J t lv s M) (J e lv s M)
    | _ => none)
  | .if_icmp c _ => (match f with
    | [t, e] => vI st fun y s => vI s fun x s => vB c (wI x) (wI y) (J t lv s M) (J e lv s M)
    | _ => none)
  | .ifnull _ => (match f with
    | [_, e] => vR st fun _ s => J e lv s M
    | _ => none)
  | .ifnonnull _ => (match f with
    | [t, _] => vR st fun _ s => J t lv s M
    | _ => none)
  | .tableswitch _ lo hi _ => (match f with
    | t :: ts => vI st fun x s => if hi = lo + ts.length - 1 then vS (wI x) lo ts (fun t => J t lv s M) (J t lv s M) else none
    | _ => none)
  | .ireturn => vI st fun x s => (match s with
    | [] => if f = [1] then (if x = 0 ∨ x = 1 then some (x, M) else none) else some (x, M)
    | _ => none)
  | .lreturn => vL st fun x s => (match s with
    | [] => some (x, M)
    | _ => none)
  | .return_ => (match st with
    | [] => some (0, M)
    | _ => none)
  | _ => none
end
section
/-! From the function to the machine. -/
noncomputable def am_FS (sh : am_Sh) (F : Nat → List am_V → am_M → am_Rs) : Prop := ∀ k as M x M', F k as M = some (x, M') → am_Calls k as sh M (am_rv (am_rk k) x) sh M'
noncomputable def am_sm (a b : am_Sh) : Prop := a = b
set_option maxHeartbeats 4000000 in
theorem vW_e {sc : Option (Nat × (Nat → Int))} {fin : Nat × Nat} {k pc : Nat} {tp : Nat → Nat} {i : Instr} {len : Nat} {f ix : List Nat} {lv : am_Lv} {st : List am_V} {sh : am_Sh} {M : am_M} {N : am_K} {J : Nat → am_K} {F : Nat → List am_V → am_M → am_Rs} {r : Int × am_M}
    (hl : am_lnk k tp pc i len f ix = true) (hF : am_FS sh F) (h : vW sc sh F i f lv st M N J = some r) :
    am_stp sc fin i f lv st sh M (fun lv st s M => am_sm s sh ∧ N lv st M = some r) (fun t lv st s M => am_sm s sh ∧ J t lv st M = some r) (fun v s M => v = am_rv (am_rk k) r.1 ∧ am_sm s sh ∧ M = r.2) := by
  cases i <;> try (exfalso; exact Option.noConfusion h; done)
  all_goals simp only [vW] at h
  all_goals simp only [am_stp]
  case iconst n => exact ⟨rfl, h⟩
  case bipush n => exact ⟨rfl, h⟩
  case sipush n => exact ⟨rfl, h⟩
  case lconst n =>
    split at h
    · exact ⟨rfl, h⟩
    · exact ⟨rfl, h⟩
  case ldc j => exact ⟨rfl, h⟩
  case ldc_w j => exact ⟨rfl, h⟩
  case ldc2_w j =>
    split at h
    · exact ⟨rfl, h⟩
    · exact ⟨rfl, h⟩
    · cases h
  case iload n => have h := hI_e h; unfold gI at *; split at h <;> first | exact ⟨rfl, h⟩ | exact h.elim
  case iload_n n => have h := hI_e h; unfold gI at *; split at h <;> first | exact ⟨rfl, h⟩ | exact h.elim
  case lload n => have h := hL_e h; unfold gL at *; split at h <;> first | exact ⟨rfl, h⟩ | exact h.elim
  case lload_n n => have h := hL_e h; unfold gL at *; split at h <;> first | exact ⟨rfl, h⟩ | exact h.elim
  case aload n => have h := hX_e h; unfold gX at *; split at h <;> first | exact ⟨rfl, h⟩ | exact h.elim
  case aload_n n => have h := hX_e h; unfold gX at *; split at h <;> first | exact ⟨rfl, h⟩ | exact h.elim
  case istore n => exact pI_m (vI_e h) fun x s h => ⟨rfl, (am_frc_e _ _).symm.trans h⟩
  case istore_n n => exact pI_m (vI_e h) fun x s h => ⟨rfl, (am_frc_e _ _).symm.trans h⟩
  case astore n => exact pX_m (vX_e h) fun x s h => ⟨rfl, (am_frc_e _ _).symm.trans h⟩
  case astore_n n => exact pX_m (vX_e h) fun x s h => ⟨rfl, (am_frc_e _ _).symm.trans h⟩
  case lstore n => exact pL_m (vL_e h) fun x s h => ⟨rfl, (am_frc_e _ _).symm.trans h⟩
  case lstore_n n => exact pL_m (vL_e h) fun x s h => ⟨rfl, (am_frc_e _ _).symm.trans h⟩
  case iinc n z => have h := hI_e h; unfold gI at *; split at h <;> first | exact ⟨rfl, (am_frc_e _ _).symm.trans h⟩ | exact h.elim
  case iadd => exact pI_m (vI_e h) fun x s h => pI_m (vI_e h) fun x s h => ⟨rfl, h⟩
  case isub => exact pI_m (vI_e h) fun x s h => pI_m (vI_e h) fun x s h => ⟨rfl, h⟩
  case imul => exact pI_m (vI_e h) fun x s h => pI_m (vI_e h) fun x s h => ⟨rfl, h⟩
  case idiv => exact pI_m (vI_e h) fun x s h => pI_m (vI_e h) fun x s h => ⟨(if_s h).1, rfl, (if_s h).2⟩
  case irem => exact pI_m (vI_e h) fun x s h => pI_m (vI_e h) fun x s h => ⟨(if_s h).1, rfl, (if_s h).2⟩
  case ineg => exact pI_m (vI_e h) fun x s h => ⟨rfl, h⟩
  case iand => exact pI_m (vI_e h) fun x s h => pI_m (vI_e h) fun x s h => ⟨rfl, h⟩
  case ior => exact pI_m (vI_e h) fun x s h => pI_m (vI_e h) fun x s h => ⟨rfl, h⟩
  case ishl => exact pI_m (vI_e h) fun x s h => pI_m (vI_e h) fun x s h => ⟨rfl, h⟩
  case ishr => exact pI_m (vI_e h) fun x s h => pI_m (vI_e h) fun x s h => ⟨rfl, h⟩
  case ladd => exact pL_m (vL_e h) fun x s h => pL_m (vL_e h) fun x s h => ⟨rfl, h⟩
  case lmul => exact pL_m (vL_e h) fun x s h => pL_m (vL_e h) fun x s h => ⟨rfl, h⟩
  case ldiv => exact pL_m (vL_e h) fun x s h => pL_m (vL_e h) fun x s h => ⟨(if_s h).1, rfl, (if_s h).2⟩
  case lrem => exact pL_m (vL_e h) fun x s h => pL_m (vL_e h) fun x s h => ⟨(if_s h).1, rfl, (if_s h).2⟩
  case lshl => exact pI_m (vI_e h) fun x s h => pL_m (vL_e h) fun x s h => ⟨rfl, h⟩
  case lcmp => exact pL_m (vL_e h) fun x s h => pL_m (vL_e h) fun x s h => ⟨rfl, h⟩
  case i2l => exact pI_m (vI_e h) fun x s h => ⟨rfl, h⟩
  case l2i => exact pL_m (vL_e h) fun x s h => ⟨rfl, h⟩
  case i2b => exact pI_m (vI_e h) fun x s h => ⟨rfl, h⟩
  case dup => exact pV_m (vV_e h) fun x s h => ⟨(if_s h).1, rfl, (if_s h).2⟩
  case pop => exact pV_m (vV_e h) fun x s h => ⟨(if_s h).1, rfl, (if_s h).2⟩
  case dup2 => exact pV_m (vV_e h) fun x s h => pV_m (vV_e h) fun x s h => ⟨(if_s h).1.1, (if_s h).1.2, rfl, (if_s h).2⟩
  case getfield j =>
    split at h
    · refine pR_m (vR_e h) fun a s h => pC_m (vC_e h) fun q h => ?_
      obtain ⟨⟨h1, h2⟩, h⟩ := if_s h
      refine ⟨h1, h2, ?_⟩
      split at h
      · rename_i e; rw [if_pos e]; exact pF_m (vF_e h) fun r h => ⟨rfl, h⟩
      · rename_i e; rw [if_neg e]
        split at h
        · rename_i e; rw [if_pos e]; exact ⟨rfl, h⟩
        · rename_i e; rw [if_neg e]; exact ⟨rfl, h⟩
    · cases h
  case putfield j =>
    split at h
    · dsimp only
      split at h
      · cases h
      · rename_i e; rw [if_neg e]
        split at h
        · rename_i e; rw [if_pos e]
          exact pL_m (vL_e h) fun x s h => pR_m (vR_e h) fun a s h => pC_m (vC_e h) fun q h => ⟨(if_s h).1.1, (if_s h).1.2, rfl, (if_s h).2⟩
        · rename_i e; rw [if_neg e]
          split at h
          · rename_i e; rw [if_pos e]
            exact pI_m (vI_e h) fun x s h => pR_m (vR_e h) fun a s h => pC_m (vC_e h) fun q h => ⟨(if_s h).1.1, (if_s h).1.2, (if_s (if_s h).2).1, rfl, (if_s (if_s h).2).2⟩
          · rename_i e; rw [if_neg e]
            exact pI_m (vI_e h) fun x s h => pR_m (vR_e h) fun a s h => pC_m (vC_e h) fun q h => ⟨(if_s h).1.1, (if_s h).1.2, rfl, (if_s h).2⟩
    · cases h
  case iaload =>
    refine pI_m (vI_e h) fun x s h => pX_m (vX_e h) fun a s h => ?_
    split at h
    · exact pC_m (vC_e h) fun q h => ⟨(if_s h).1, (if_s (if_s h).2).1, rfl, (if_s (if_s h).2).2⟩
    · split at h
      · exact ⟨(if_s h).1, rfl, (if_s h).2⟩
      · cases h
  case laload => exact pI_m (vI_e h) fun x s h => pR_m (vR_e h) fun a s h => pC_m (vC_e h) fun q h => ⟨(if_s h).1, (if_s (if_s h).2).1, rfl, (if_s (if_s h).2).2⟩
  case aaload =>
    refine pI_m (vI_e h) fun x s h => pR_m (vR_e h) fun a s h => pC_m (vC_e h) fun q h => ?_
    obtain ⟨⟨h1, h2⟩, h⟩ := if_s h
    obtain ⟨j, b, g1, g2, g3, g4⟩ := vQ_e _ _ h
    refine ⟨h1, ⟨by omega, by omega⟩, ?_⟩
    rw [show (wI x).toNat = j by omega, g3]
    exact ⟨rfl, g4⟩
  case iastore => exact pI_m (vI_e h) fun x s h => pI_m (vI_e h) fun x s h => pR_m (vR_e h) fun a s h => pC_m (vC_e h) fun q h => ⟨(if_s h).1, (if_s (if_s h).2).1, rfl, (if_s (if_s h).2).2⟩
  case lastore => exact pL_m (vL_e h) fun x s h => pI_m (vI_e h) fun x s h => pR_m (vR_e h) fun a s h => pC_m (vC_e h) fun q h => ⟨(if_s h).1, (if_s (if_s h).2).1, rfl, (if_s (if_s h).2).2⟩
  case arraylength =>
    refine pX_m (vX_e h) fun a s h => ?_
    split at h
    · exact pC_m (vC_e h) fun q h => (if_s h).1.imp (fun e => ⟨e, rfl, (if_s h).2⟩) (fun e => ⟨e, rfl, (if_s h).2⟩)
    · split at h
      · exact ⟨rfl, h⟩
      · cases h
  case invokevirtual j =>
    split at h
    · simp only [am_lnk, Bool.and_eq_true, decide_eq_true_eq] at hl
      obtain ⟨-, ⟨⟨⟨⟨⟨⟨⟨-, hrk⟩, -⟩, -⟩, -⟩, -⟩, -⟩, -⟩⟩ := hl
      refine pA_m (vA_e h) fun as s h => pR_m (vR_e h) fun a s h => pC_m (vC_e h) fun q h => ?_
      obtain ⟨⟨h1, h2⟩, h⟩ := if_s h
      obtain ⟨z, h3, h4⟩ := Option.bind_eq_some_iff.mp h
      obtain ⟨x, M1⟩ := z
      refine ⟨h1, h2, _, M1, hF _ _ _ _ _ h3, rfl, ?_⟩
      rw [am_rv_vP, hrk]; exact h4
    · cases h
  case invokestatic j =>
    split at h
    · simp only [am_lnk, Bool.and_eq_true, decide_eq_true_eq] at hl
      obtain ⟨-, ⟨⟨⟨-, hrk⟩, -⟩, -⟩, -⟩ := hl
      refine pA_m (vA_e h) fun as s h => ?_
      obtain ⟨h2, h⟩ := if_s h
      obtain ⟨z, h3, h4⟩ := Option.bind_eq_some_iff.mp h
      obtain ⟨x, M1⟩ := z
      refine ⟨h2, _, M1, hF _ _ _ _ _ h3, rfl, ?_⟩
      rw [am_rv_vP, hrk]; exact h4
    · refine pI_m (vI_e h) fun x s h => pI_m (vI_e h) fun x s h => pR_m (vR_e h) fun x s h => pI_m (vI_e h) fun x s h => pR_m (vR_e h) fun x s h => pC_m (vC_e h) fun q h => pC_m (vC_e h) fun q h => ?_
      obtain ⟨⟨h1, h2⟩, h⟩ := if_s h
      obtain ⟨h3, h⟩ := if_s h
      exact ⟨h1, h3, h2, rfl, h⟩
    · dsimp only
      split at h
      · rename_i e; rw [if_pos e]; exact pI_m (vI_e h) fun x s h => ⟨(if_s h).1, rfl, (if_s h).2⟩
      · rename_i e; rw [if_neg e]
        split at h
        · rename_i e; rw [if_pos e]; exact pI_m (vI_e h) fun x s h => pI_m (vI_e h) fun x s h => ⟨(if_s h).1, rfl, (if_s h).2⟩
        · rename_i e; rw [if_neg e]; exact pI_m (vI_e h) fun x s h => pI_m (vI_e h) fun x s h => ⟨(if_s h).1, rfl, (if_s h).2⟩
    · cases h
  case goto off =>
    split at h
    · exact ⟨rfl, h⟩
    · cases h
  case ifCond c off =>
    split at h
    · exact pI_m (vI_e h) fun x s h => ⟨fun q => ⟨rfl, (vB_e h).1 q⟩, fun q => ⟨rfl, (vB_e h).2 q⟩⟩
    · cases h
  case if_icmp c off =>
    split at h
    · exact pI_m (vI_e h) fun x s h => pI_m (vI_e h) fun x s h => ⟨fun q => ⟨rfl, (vB_e h).1 q⟩, fun q => ⟨rfl, (vB_e h).2 q⟩⟩
    · cases h
  case ifnull off =>
    split at h
    · exact pR_m (vR_e h) fun x s h => ⟨rfl, h⟩
    · cases h
  case ifnonnull off =>
    split at h
    · exact pR_m (vR_e h) fun x s h => ⟨rfl, h⟩
    · cases h
  case tableswitch d lo hi offs =>
    split at h
    · refine pI_m (vI_e h) fun x s h => ?_
      obtain ⟨h1, h⟩ := if_s h
      obtain ⟨h2, h3⟩ := vS_e _ _ h
      refine ⟨fun q => ⟨rfl, h2 (by rw [h1] at q; exact q)⟩, ?_⟩
      have : ∀ (ts : List Nat) (lo : Int) (P Q : Nat → Prop), (∀ t, P t → Q t) → am_sw (wI x) lo ts P → am_sw (wI x) lo ts Q := by
        intro ts
        induction ts with
        | nil => intro _ _ _ _ _; trivial
        | cons a ts ih => intro lo P Q m hh; exact ⟨fun q => m _ (hh.1 q), ih _ P Q m hh.2⟩
      exact this _ _ _ _ (fun t h => ⟨rfl, h⟩) h3
    · cases h
  case ireturn =>
    simp only [am_lnk, Bool.and_eq_true, decide_eq_true_eq] at hl
    have hrk : am_rk k = 1 := by
      rcases hl.2 with e | ⟨e, -⟩ <;> simp [am_rk, e]
    refine pI_m (vI_e h) fun x s h => ?_
    split at h
    · refine ⟨rfl, ?_⟩
      split at h
      · obtain ⟨h1, h⟩ := if_s h
        cases h
        exact ⟨fun _ => h1, by simp [hrk, am_rv], rfl, rfl⟩
      · rename_i e
        cases h
        exact ⟨fun q => absurd q e, by simp [hrk, am_rv], rfl, rfl⟩
    · cases h
  case lreturn =>
    simp only [am_lnk, Bool.and_eq_true, decide_eq_true_eq] at hl
    have hrk : am_rk k = 2 := by simp [am_rk, hl.2]
    refine pL_m (vL_e h) fun x s h => ?_
    split at h
    · cases h
      exact ⟨rfl, by simp [hrk, am_rv], rfl, rfl⟩
    · cases h
  case return_ =>
    simp only [am_lnk, Bool.and_eq_true, decide_eq_true_eq] at hl
    have hrk : am_rk k = 0 := by simp [am_rk, hl.2]
    split at h
    · cases h
      exact ⟨rfl, by simp [hrk, am_rv], rfl, rfl⟩
    · cases h
  all_goals cases h
noncomputable def vBk (sc : Option (Nat × (Nat → Int))) (sh : am_Sh) (F : Nat → List am_V → am_M → am_Rs) (J : Nat → am_K) (fall : Option Nat) : List am_E → am_K
  | [], lv, st, M => (match fall with
    | some t => J t lv st M
    | none => none)
  | e :: es, lv, st, M => vW sc sh F e.1 e.2 lv st M (vBk sc sh F J fall es) J
noncomputable def vRun (sc : Option (Nat × (Nat → Int))) (sh : am_Sh) (F : Nat → List am_V → am_M → am_Rs) (bs : List am_B) (C : Nat → am_K) : Nat → Nat → am_K
  | 0, _, _, _, _ => none
  | n + 1, b, lv, st, M => (match bs[b]? with
    | none => none
    | some q => vBk sc sh F (fun t => if 1000 ≤ t then C (t - 1000) else vRun sc sh F bs C n t) q.2.2 q.2.1 lv st M)
theorem vBk_e {sc : Option (Nat × (Nat → Int))} {sh : am_Sh} {F : Nat → List am_V → am_M → am_Rs} {k : Nat} {tp : Nat → Nat} {r : Int × am_M} {J : Nat → am_K} {fall : Option Nat} (hF : am_FS sh F) (hJ : ∀ t lv st M, J t lv st M = some r → am_At sc k (tp t) lv st sh M (am_rv (am_rk k) r.1) sh r.2) :
    ∀ (es : List am_E) (cs : List (Nat × List Nat)) (pc : Nat) (lv : am_Lv) (st : List am_V) (M : am_M), am_ckB k tp pc es cs fall = true → vBk sc sh F J fall es lv st M = some r → am_At sc k pc lv st sh M (am_rv (am_rk k) r.1) sh r.2
  | [], [], pc, lv, st, M, hc, h => by
    cases fall with
    | none => cases h
    | some t =>
      simp only [am_ckB, decide_eq_true_eq] at hc
      rw [← hc]
      exact hJ t lv st M h
  | e :: es, c :: cs, pc, lv, st, M, hc, h => by
    simp only [am_ckB, Bool.and_eq_true, decide_eq_true_eq] at hc
    exact am_step hc.1.1 hc.1.2 (fun lv st s M hn => by obtain ⟨rfl, hn⟩ := hn; exact vBk_e hF hJ es cs (pc + c.1) lv st M hc.2 hn) (fun t lv st s M hn => by obtain ⟨rfl, hn⟩ := hn; exact hJ t lv st M hn) (vW_e hc.1.2 hF h)
  | [], _ :: _, pc, lv, st, M, hc, h => by cases fall <;> simp [am_ckB] at hc
  | _ :: _, [], pc, lv, st, M, hc, h => by cases fall <;> simp [am_ckB] at hc
theorem vRegion0 {sc : Option (Nat × (Nat → Int))} {sh : am_Sh} {F : Nat → List am_V → am_M → am_Rs} {k : Nat} {bs : List am_B} {cs : List (List (Nat × List Nat))} {r : Int × am_M} {C : Nat → am_K} (hck : am_ck k bs cs = true) (hF : am_FS sh F) (hC : ∀ t lv st M, C t lv st M = some r → am_R sc k bs t lv st sh M (am_rv (am_rk k) r.1) sh r.2) :
    ∀ (n b : Nat) (lv : am_Lv) (st : List am_V) (M : am_M), vRun sc sh F bs C n b lv st M = some r → am_R sc k bs b lv st sh M (am_rv (am_rk k) r.1) sh r.2
  | 0, b, lv, st, M, h => by cases h
  | n + 1, b, lv, st, M, h => by
    unfold vRun at h
    split at h
    · cases h
    · rename_i q hq
      obtain ⟨c, hc⟩ := am_ckL_e bs cs hck b q hq
      have e1 : am_pc bs b = q.1 := by simp [am_pc, List.getD_eq_getElem?_getD, hq]
      unfold am_R
      rw [e1]
      refine vBk_e hF (fun t lv st M hj => ?_) _ c _ lv st M hc h
      unfold am_tp
      split at hj
      · rename_i ht
        rw [if_pos ht]; exact hC _ _ _ _ hj
      · rename_i ht
        rw [if_neg ht]; exact vRegion0 hck hF hC n t lv st M hj
theorem vRegion {sc : Option (Nat × (Nat → Int))} {sh : am_Sh} {F : Nat → List am_V → am_M → am_Rs} {k : Nat} {bs : List am_B} {cs : List (List (Nat × List Nat))} {r : Int × am_M} {C : Nat → am_K} (hck : am_ck k bs cs = true) (hF : am_FS sh F) (hC : ∀ t lv st M, C t lv st M = some r → am_R sc k bs t lv st sh M (am_rv (am_rk k) r.1) sh r.2) (n b : Nat) (lv : am_Lv) (st : List am_V) (M : am_M) (h : am_frc lv (fun lv => vRun sc sh F bs C n b lv st M) = some r) : am_R sc k bs b lv st sh M (am_rv (am_rk k) r.1) sh r.2 :=
  vRegion0 hck hF hC n b lv st M ((am_frc_e _ _).symm.trans h)
/-- a method without loops -/
theorem vCall {sh : am_Sh} {F : Nat → List am_V → am_M → am_Rs} {k n fu : Nat} {bs : List am_B} {cs : List (List (Nat × List Nat))} {C : Nat → am_K} {as : List am_V} {M M' : am_M} {x : Int} (hck : am_ck k bs cs = true) (hp : plainName (am_y k).cls = true) (hn : am_ml k = n) (hb : am_pc bs 0 = 0) (hl : (am_argl as).length ≤ n) (hF : am_FS sh F)
    (hC : ∀ t lv st M, C t lv st M = some (x, M') → am_R none k bs t lv st sh M (am_rv (am_rk k) x) sh M') (h : am_frc (am_ent n as) (fun lv => vRun none sh F bs C fu 0 lv [] M) = some (x, M')) : am_Calls k as sh M (am_rv (am_rk k) x) sh M' :=
  am_enter hp hn hb hl ⟨Nat.le_refl _, Nat.le_refl _⟩ (vRegion hck hF hC fu 0 _ _ _ h)
end
section
/-! Cuts: what is live there, read and written. -/
noncomputable def am_rd : List Nat → am_Lv → Option (List Int)
  | [], [] => some []
  | 0 :: ss, _ :: lv => am_rd ss lv
  | 1 :: ss, some (.inl x) :: lv => (match am_rd ss lv with
    | some vs => some (x :: vs)
    | none => none)
  | 2 :: ss, some (.inr (.inl x)) :: lv => (match am_rd ss lv with
    | some vs => some (x :: vs)
    | none => none)
  | (k + 3) :: ss, some (.inr (.inr (some a))) :: lv => if a = k then am_rd ss lv else none
  | _, _ => none
noncomputable def am_wr : List Nat → List Int → am_Lv
  | [], _ => []
  | 0 :: ss, vs => none :: am_wr ss vs
  | 1 :: ss, v :: vs => some (.inl v) :: am_wr ss vs
  | 2 :: ss, v :: vs => some (.inr (.inl v)) :: am_wr ss vs
  | (k + 3) :: ss, vs => some (.inr (.inr (some k))) :: am_wr ss vs
  | _ :: ss, [] => none :: am_wr ss []
theorem am_rd_wr : ∀ (ss : List Nat) (lv : am_Lv) (vs : List Int), am_rd ss lv = some vs → (am_wr ss vs).length = lv.length ∧ ∀ (i : Nat) (v : am_V), (am_wr ss vs)[i]? = some (some v) → lv[i]? = some (some v)
  | [], [], vs, h => by cases h; exact ⟨rfl, fun i v h => by simp [am_wr] at h⟩
  | 0 :: ss, o :: lv, vs, h => by
    obtain ⟨h1, h2⟩ := am_rd_wr ss lv vs (by simpa [am_rd] using h)
    refine ⟨by simp [am_wr, h1], fun i v hv => ?_⟩
    cases i with
    | zero => simp [am_wr] at hv
    | succ i => simp [am_wr] at hv; simpa using h2 i v hv
  | 1 :: ss, some (.inl x) :: lv, vs, h => by
    simp only [am_rd] at h
    split at h
    · rename_i vs' hr
      cases h
      obtain ⟨h1, h2⟩ := am_rd_wr ss lv vs' hr
      refine ⟨by simp [am_wr, h1], fun i v hv => ?_⟩
      cases i with
      | zero => simpa [am_wr] using hv
      | succ i => simp [am_wr] at hv; simpa using h2 i v hv
    · cases h
  | 2 :: ss, some (.inr (.inl x)) :: lv, vs, h => by
    simp only [am_rd] at h
    split at h
    · rename_i vs' hr
      cases h
      obtain ⟨h1, h2⟩ := am_rd_wr ss lv vs' hr
      refine ⟨by simp [am_wr, h1], fun i v hv => ?_⟩
      cases i with
      | zero => simpa [am_wr] using hv
      | succ i => simp [am_wr] at hv; simpa using h2 i v hv
    · cases h
  | (k + 3) :: ss, some (.inr (.inr (some a))) :: lv, vs, h => by
    simp only [am_rd] at h
    split at h
    · rename_i e
      subst e
      obtain ⟨h1, h2⟩ := am_rd_wr ss lv vs h
      refine ⟨by simp [am_wr, h1], fun i v hv => ?_⟩
      cases i with
      | zero => simpa [am_wr] using hv
      | succ i => simp [am_wr] at hv; simpa using h2 i v hv
    · cases h
  | 1 :: _, none :: _, _, h => by simp [am_rd] at h
  | 1 :: _, some (.inr _) :: _, _, h => by simp [am_rd] at h
  | 2 :: _, none :: _, _, h => by simp [am_rd] at h
  | 2 :: _, some (.inl _) :: _, _, h => by simp [am_rd] at h
  | 2 :: _, some (.inr (.inr _)) :: _, _, h => by simp [am_rd] at h
  | (_ + 3) :: _, none :: _, _, h => by simp [am_rd] at h
  | (_ + 3) :: _, some (.inl _) :: _, _, h => by simp [am_rd] at h
  | (_ + 3) :: _, some (.inr (.inl _)) :: _, _, h => by simp [am_rd] at h
  | (_ + 3) :: _, some (.inr (.inr none)) :: _, _, h => by simp [am_rd] at h
  | [], _ :: _, _, h => by simp [am_rd] at h
  | 0 :: _, [], _, h => by simp [am_rd] at h
  | 1 :: _, [], _, h => by simp [am_rd] at h
  | 2 :: _, [], _, h => by simp [am_rd] at h
  | (_ + 3) :: _, [], _, h => by simp [am_rd] at h
theorem am_weak {sc : Option (Nat × (Nat → Int))} {k : Nat} {bs : List am_B} {b : Nat} {lv lv' : am_Lv} {st : List am_V} {sh sh' : am_Sh} {M M' : am_M} {v : Option am_V} (hl : lv'.length = lv.length) (hs : ∀ (i : Nat) (v : am_V), lv'[i]? = some (some v) → lv[i]? = some (some v)) (h : am_R sc k bs b lv' st sh M v sh' M') : am_R sc k bs b lv st sh M v sh' M' := by
  intro p l e R s m args below meth c D ca base bb n0 sl0 H locs ls Q hC hS hQ
  exact h hC (hS.lv (lv_has_sub hS.1 (fun q hq => by
    obtain ⟨w, hw, e⟩ := am_lvl_mem.mp hq
    exact am_lvl_mem.mpr ⟨w, hs _ _ hw, e⟩)) hl) hQ
noncomputable def vCt (ss : List Nat) (g : List Int → am_M → am_Rs) (lv : am_Lv) (st : List am_V) (M : am_M) : am_Rs := match st with
  | [] => (match am_rd ss lv with
    | some vs => g vs M
    | none => none)
  | _ => none
theorem vCt_s {sc : Option (Nat × (Nat → Int))} {k : Nat} {bs : List am_B} {b : Nat} {ss : List Nat} {g : List Int → am_M → am_Rs} {lv : am_Lv} {st : List am_V} {sh sh' : am_Sh} {M M' : am_M} {v : Option am_V} {r : Int × am_M} (hg : ∀ vs M, g vs M = some r → am_R sc k bs b (am_wr ss vs) [] sh M v sh' M') (h : vCt ss g lv st M = some r) : am_R sc k bs b lv st sh M v sh' M' := by
  unfold vCt at h
  split at h
  · split at h
    · rename_i vs hr
      obtain ⟨h1, h2⟩ := am_rd_wr ss lv vs hr
      exact am_weak h1 h2 (hg vs M h)
    · cases h
  · cases h
noncomputable def un0 (g : am_M → am_Rs) (vs : List Int) (M : am_M) : am_Rs := match vs with
  | [] => g  M
  | _ => none
theorem un0_s {g : am_M → am_Rs} {r : Int × am_M} {P : List Int → am_M → Prop} (h : ∀ M, g  M = some r → P [] M) : ∀ vs M, un0 g vs M = some r → P vs M := by
  intro vs M hh
  unfold un0 at hh
  split at hh
  · exact h _ hh
  · cases hh
noncomputable def un1 (g : Int → am_M → am_Rs) (vs : List Int) (M : am_M) : am_Rs := match vs with
  | [a1] => g a1 M
  | _ => none
theorem un1_s {g : Int → am_M → am_Rs} {r : Int × am_M} {P : List Int → am_M → Prop} (h : ∀ a1 M, g a1 M = some r → P [a1] M) : ∀ vs M, un1 g vs M = some r → P vs M := by
  intro vs M hh
  unfold un1 at hh
  split at hh
  · exact h _ _ hh
  · cases hh
noncomputable def un2 (g : Int → Int → am_M → am_Rs) (vs : List Int) (M : am_M) : am_Rs := match vs with
  | [a1, a2] => g a1 a2 M
  | _ => none
theorem un2_s {g : Int → Int → am_M → am_Rs} {r : Int × am_M} {P : List Int → am_M → Prop} (h : ∀ a1 a2 M, g a1 a2 M = some r → P [a1, a2] M) : ∀ vs M, un2 g vs M = some r → P vs M := by
  intro vs M hh
  unfold un2 at hh
  split at hh
  · exact h _ _ _ hh
  · cases hh
noncomputable def un3 (g : Int → Int → Int → am_M → am_Rs) (vs : List Int) (M : am_M) : am_Rs := match vs with
  | [a1, a2, a3] => g a1 a2 a3 M
  | _ => none
theorem un3_s {g : Int → Int → Int → am_M → am_Rs} {r : Int × am_M} {P : List Int → am_M → Prop} (h : ∀ a1 a2 a3 M, g a1 a2 a3 M = some r → P [a1, a2, a3] M) : ∀ vs M, un3 g vs M = some r → P vs M := by
  intro vs M hh
  unfold un3 at hh
  split at hh
  · exact h _ _ _ _ hh
  · cases hh
noncomputable def un4 (g : Int → Int → Int → Int → am_M → am_Rs) (vs : List Int) (M : am_M) : am_Rs := match vs with
  | [a1, a2, a3, a4] => g a1 a2 a3 a4 M
  | _ => none
theorem un4_s {g : Int → Int → Int → Int → am_M → am_Rs} {r : Int × am_M} {P : List Int → am_M → Prop} (h : ∀ a1 a2 a3 a4 M, g a1 a2 a3 a4 M = some r → P [a1, a2, a3, a4] M) : ∀ vs M, un4 g vs M = some r → P vs M := by
  intro vs M hh
  unfold un4 at hh
  split at hh
  · exact h _ _ _ _ _ hh
  · cases hh
noncomputable def un5 (g : Int → Int → Int → Int → Int → am_M → am_Rs) (vs : List Int) (M : am_M) : am_Rs := match vs with
  | [a1, a2, a3, a4, a5] => g a1 a2 a3 a4 a5 M
  | _ => none
theorem un5_s {g : Int → Int → Int → Int → Int → am_M → am_Rs} {r : Int × am_M} {P : List Int → am_M → Prop} (h : ∀ a1 a2 a3 a4 a5 M, g a1 a2 a3 a4 a5 M = some r → P [a1, a2, a3, a4, a5] M) : ∀ vs M, un5 g vs M = some r → P vs M := by
  intro vs M hh
  unfold un5 at hh
  split at hh
  · exact h _ _ _ _ _ _ hh
  · cases hh
noncomputable def un6 (g : Int → Int → Int → Int → Int → Int → am_M → am_Rs) (vs : List Int) (M : am_M) : am_Rs := match vs with
  | [a1, a2, a3, a4, a5, a6] => g a1 a2 a3 a4 a5 a6 M
  | _ => none
theorem un6_s {g : Int → Int → Int → Int → Int → Int → am_M → am_Rs} {r : Int × am_M} {P : List Int → am_M → Prop} (h : ∀ a1 a2 a3 a4 a5 a6 M, g a1 a2 a3 a4 a5 a6 M = some r → P [a1, a2, a3, a4, a5, a6] M) : ∀ vs M, un6 g vs M = some r → P vs M := by
  intro vs M hh
  unfold un6 at hh
  split at hh
  · exact h _ _ _ _ _ _ _ hh
  · cases hh
noncomputable def un7 (g : Int → Int → Int → Int → Int → Int → Int → am_M → am_Rs) (vs : List Int) (M : am_M) : am_Rs := match vs with
  | [a1, a2, a3, a4, a5, a6, a7] => g a1 a2 a3 a4 a5 a6 a7 M
  | _ => none
theorem un7_s {g : Int → Int → Int → Int → Int → Int → Int → am_M → am_Rs} {r : Int × am_M} {P : List Int → am_M → Prop} (h : ∀ a1 a2 a3 a4 a5 a6 a7 M, g a1 a2 a3 a4 a5 a6 a7 M = some r → P [a1, a2, a3, a4, a5, a6, a7] M) : ∀ vs M, un7 g vs M = some r → P vs M := by
  intro vs M hh
  unfold un7 at hh
  split at hh
  · exact h _ _ _ _ _ _ _ _ hh
  · cases hh
noncomputable def un8 (g : Int → Int → Int → Int → Int → Int → Int → Int → am_M → am_Rs) (vs : List Int) (M : am_M) : am_Rs := match vs with
  | [a1, a2, a3, a4, a5, a6, a7, a8] => g a1 a2 a3 a4 a5 a6 a7 a8 M
  | _ => none
theorem un8_s {g : Int → Int → Int → Int → Int → Int → Int → Int → am_M → am_Rs} {r : Int × am_M} {P : List Int → am_M → Prop} (h : ∀ a1 a2 a3 a4 a5 a6 a7 a8 M, g a1 a2 a3 a4 a5 a6 a7 a8 M = some r → P [a1, a2, a3, a4, a5, a6, a7, a8] M) : ∀ vs M, un8 g vs M = some r → P vs M := by
  intro vs M hh
  unfold un8 at hh
  split at hh
  · exact h _ _ _ _ _ _ _ _ _ hh
  · cases hh
noncomputable def un9 (g : Int → Int → Int → Int → Int → Int → Int → Int → Int → am_M → am_Rs) (vs : List Int) (M : am_M) : am_Rs := match vs with
  | [a1, a2, a3, a4, a5, a6, a7, a8, a9] => g a1 a2 a3 a4 a5 a6 a7 a8 a9 M
  | _ => none
theorem un9_s {g : Int → Int → Int → Int → Int → Int → Int → Int → Int → am_M → am_Rs} {r : Int × am_M} {P : List Int → am_M → Prop} (h : ∀ a1 a2 a3 a4 a5 a6 a7 a8 a9 M, g a1 a2 a3 a4 a5 a6 a7 a8 a9 M = some r → P [a1, a2, a3, a4, a5, a6, a7, a8, a9] M) : ∀ vs M, un9 g vs M = some r → P vs M := by
  intro vs M hh
  unfold un9 at hh
  split at hh
  · exact h _ _ _ _ _ _ _ _ _ _ hh
  · cases hh
noncomputable def un10 (g : Int → Int → Int → Int → Int → Int → Int → Int → Int → Int → am_M → am_Rs) (vs : List Int) (M : am_M) : am_Rs := match vs with
  | [a1, a2, a3, a4, a5, a6, a7, a8, a9, a10] => g a1 a2 a3 a4 a5 a6 a7 a8 a9 a10 M
  | _ => none
theorem un10_s {g : Int → Int → Int → Int → Int → Int → Int → Int → Int → Int → am_M → am_Rs} {r : Int × am_M} {P : List Int → am_M → Prop} (h : ∀ a1 a2 a3 a4 a5 a6 a7 a8 a9 a10 M, g a1 a2 a3 a4 a5 a6 a7 a8 a9 a10 M = some r → P [a1, a2, a3, a4, a5, a6, a7, a8, a9, a10] M) : ∀ vs M, un10 g vs M = some r → P vs M := by
  intro vs M hh
  unfold un10 at hh
  split at hh
  · exact h _ _ _ _ _ _ _ _ _ _ _ hh
  · cases hh
noncomputable def un11 (g : Int → Int → Int → Int → Int → Int → Int → Int → Int → Int → Int → am_M → am_Rs) (vs : List Int) (M : am_M) : am_Rs := match vs with
  | [a1, a2, a3, a4, a5, a6, a7, a8, a9, a10, a11] => g a1 a2 a3 a4 a5 a6 a7 a8 a9 a10 a11 M
  | _ => none
theorem un11_s {g : Int → Int → Int → Int → Int → Int → Int → Int → Int → Int → Int → am_M → am_Rs} {r : Int × am_M} {P : List Int → am_M → Prop} (h : ∀ a1 a2 a3 a4 a5 a6 a7 a8 a9 a10 a11 M, g a1 a2 a3 a4 a5 a6 a7 a8 a9 a10 a11 M = some r → P [a1, a2, a3, a4, a5, a6, a7, a8, a9, a10, a11] M) : ∀ vs M, un11 g vs M = some r → P vs M := by
  intro vs M hh
  unfold un11 at hh
  split at hh
  · exact h _ _ _ _ _ _ _ _ _ _ _ _ hh
  · cases hh
end
section
noncomputable def SH : am_Sh := [(8, 16, [some 1, some 4, some 7, some 11, some 14, some 19, some 35, some 36, some 41, some 44, some 47, some 52, none, none, none, none]),
  (6, 5, [none, none, none, some 2, some 3]),
  (10, 6, []),
  (10, 240, []),
  (6, 5, [none, none, none, some 5, some 6]),
  (10, 4, []),
  (10, 240, []),
  (5, 7, [some 8, none, none, none, some 4, none, none]),
  (2, 3, [none, some 9, some 10]),
  (10, 12, []),
  (10, 12, []),
  (2, 3, [none, some 12, some 13]),
  (10, 12, []),
  (10, 12, []),
  (1, 8, [none, none, none, none, some 15, some 16, some 17, some 18]),
  (10, 40, []),
  (10, 40, []),
  (10, 41, []),
  (10, 96, []),
  (12, 3, [some 20, some 25, some 30]),
  (1, 8, [none, none, none, none, some 21, some 22, some 23, some 24]),
  (10, 40, []),
  (10, 40, []),
  (10, 41, []),
  (10, 96, []),
  (1, 8, [none, none, none, none, some 26, some 27, some 28, some 29]),
  (10, 40, []),
  (10, 40, []),
  (10, 41, []),
  (10, 96, []),
  (1, 8, [none, none, none, none, some 31, some 32, some 33, some 34]),
  (10, 40, []),
  (10, 40, []),
  (10, 41, []),
  (10, 96, []),
  (10, 3, []),
  (4, 7, [some 11, some 14, some 37, some 38, some 39, some 40, none]),
  (10, 13, []),
  (10, 273, []),
  (11, 13, []),
  (11, 13, []),
  (0, 4, [some 11, some 14, some 42, some 43]),
  (11, 13, []),
  (11, 13, []),
  (7, 5, [some 11, some 14, some 45, some 46, none]),
  (10, 65, []),
  (10, 65, []),
  (3, 4, [some 11, some 14, some 48, some 51]),
  (2, 3, [none, some 49, some 50]),
  (10, 12, []),
  (10, 12, []),
  (10, 41, []),
  (10, 6, []),
  (9, 31, [some 54, none, some 55, some 56, some 57, some 58, some 59, some 60, none, none, none, none, some 61, none, none, none, some 62, none, some 63, none, none, some 64, none, none, some 65, some 66, some 67, none, some 68, none, none]),
  (10, 605, []),
  (10, 12, []),
  (10, 12, []),
  (10, 6, []),
  (10, 240, []),
  (10, 4, []),
  (10, 240, []),
  (10, 6, []),
  (10, 24, []),
  (10, 3, []),
  (10, 273, []),
  (11, 273, []),
  (11, 13, []),
  (11, 13, []),
  (10, 65, [])]
theorem sh_0 : SH[0]? = some (8, 16, [some 1, some 4, some 7, some 11, some 14, some 19, some 35, some 36, some 41, some 44, some 47, some 52, none, none, none, none]) := rfl
theorem sh_1 : SH[1]? = some (6, 5, [none, none, none, some 2, some 3]) := rfl
theorem sh_2 : SH[2]? = some (10, 6, []) := rfl
theorem sh_3 : SH[3]? = some (10, 240, []) := rfl
theorem sh_4 : SH[4]? = some (6, 5, [none, none, none, some 5, some 6]) := rfl
theorem sh_5 : SH[5]? = some (10, 4, []) := rfl
theorem sh_6 : SH[6]? = some (10, 240, []) := rfl
theorem sh_7 : SH[7]? = some (5, 7, [some 8, none, none, none, some 4, none, none]) := rfl
theorem sh_8 : SH[8]? = some (2, 3, [none, some 9, some 10]) := rfl
theorem sh_9 : SH[9]? = some (10, 12, []) := rfl
theorem sh_10 : SH[10]? = some (10, 12, []) := rfl
theorem sh_11 : SH[11]? = some (2, 3, [none, some 12, some 13]) := rfl
theorem sh_12 : SH[12]? = some (10, 12, []) := rfl
theorem sh_13 : SH[13]? = some (10, 12, []) := rfl
theorem sh_14 : SH[14]? = some (1, 8, [none, none, none, none, some 15, some 16, some 17, some 18]) := rfl
theorem sh_15 : SH[15]? = some (10, 40, []) := rfl
theorem sh_16 : SH[16]? = some (10, 40, []) := rfl
theorem sh_17 : SH[17]? = some (10, 41, []) := rfl
theorem sh_18 : SH[18]? = some (10, 96, []) := rfl
theorem sh_19 : SH[19]? = some (12, 3, [some 20, some 25, some 30]) := rfl
theorem sh_20 : SH[20]? = some (1, 8, [none, none, none, none, some 21, some 22, some 23, some 24]) := rfl
theorem sh_21 : SH[21]? = some (10, 40, []) := rfl
theorem sh_22 : SH[22]? = some (10, 40, []) := rfl
theorem sh_23 : SH[23]? = some (10, 41, []) := rfl
theorem sh_24 : SH[24]? = some (10, 96, []) := rfl
theorem sh_25 : SH[25]? = some (1, 8, [none, none, none, none, some 26, some 27, some 28, some 29]) := rfl
theorem sh_26 : SH[26]? = some (10, 40, []) := rfl
theorem sh_27 : SH[27]? = some (10, 40, []) := rfl
theorem sh_28 : SH[28]? = some (10, 41, []) := rfl
theorem sh_29 : SH[29]? = some (10, 96, []) := rfl
theorem sh_30 : SH[30]? = some (1, 8, [none, none, none, none, some 31, some 32, some 33, some 34]) := rfl
theorem sh_31 : SH[31]? = some (10, 40, []) := rfl
theorem sh_32 : SH[32]? = some (10, 40, []) := rfl
theorem sh_33 : SH[33]? = some (10, 41, []) := rfl
theorem sh_34 : SH[34]? = some (10, 96, []) := rfl
theorem sh_35 : SH[35]? = some (10, 3, []) := rfl
theorem sh_36 : SH[36]? = some (4, 7, [some 11, some 14, some 37, some 38, some 39, some 40, none]) := rfl
theorem sh_37 : SH[37]? = some (10, 13, []) := rfl
theorem sh_38 : SH[38]? = some (10, 273, []) := rfl
theorem sh_39 : SH[39]? = some (11, 13, []) := rfl
theorem sh_40 : SH[40]? = some (11, 13, []) := rfl
theorem sh_41 : SH[41]? = some (0, 4, [some 11, some 14, some 42, some 43]) := rfl
theorem sh_42 : SH[42]? = some (11, 13, []) := rfl
theorem sh_43 : SH[43]? = some (11, 13, []) := rfl
theorem sh_44 : SH[44]? = some (7, 5, [some 11, some 14, some 45, some 46, none]) := rfl
theorem sh_45 : SH[45]? = some (10, 65, []) := rfl
theorem sh_46 : SH[46]? = some (10, 65, []) := rfl
theorem sh_47 : SH[47]? = some (3, 4, [some 11, some 14, some 48, some 51]) := rfl
theorem sh_48 : SH[48]? = some (2, 3, [none, some 49, some 50]) := rfl
theorem sh_49 : SH[49]? = some (10, 12, []) := rfl
theorem sh_50 : SH[50]? = some (10, 12, []) := rfl
theorem sh_51 : SH[51]? = some (10, 41, []) := rfl
theorem sh_52 : SH[52]? = some (10, 6, []) := rfl
theorem sh_53 : SH[53]? = some (9, 31, [some 54, none, some 55, some 56, some 57, some 58, some 59, some 60, none, none, none, none, some 61, none, none, none, some 62, none, some 63, none, none, some 64, none, none, some 65, some 66, some 67, none, some 68, none, none]) := rfl
theorem sh_54 : SH[54]? = some (10, 605, []) := rfl
theorem sh_55 : SH[55]? = some (10, 12, []) := rfl
theorem sh_56 : SH[56]? = some (10, 12, []) := rfl
theorem sh_57 : SH[57]? = some (10, 6, []) := rfl
theorem sh_58 : SH[58]? = some (10, 240, []) := rfl
theorem sh_59 : SH[59]? = some (10, 4, []) := rfl
theorem sh_60 : SH[60]? = some (10, 240, []) := rfl
theorem sh_61 : SH[61]? = some (10, 6, []) := rfl
theorem sh_62 : SH[62]? = some (10, 24, []) := rfl
theorem sh_63 : SH[63]? = some (10, 3, []) := rfl
theorem sh_64 : SH[64]? = some (10, 273, []) := rfl
theorem sh_65 : SH[65]? = some (11, 273, []) := rfl
theorem sh_66 : SH[66]? = some (11, 13, []) := rfl
theorem sh_67 : SH[67]? = some (11, 13, []) := rfl
theorem sh_68 : SH[68]? = some (10, 65, []) := rfl
end
