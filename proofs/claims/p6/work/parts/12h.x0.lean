/-- PaceBorder$Chance.<init>(LPaceBorder$Ground;LPaceBorder$Days;)V: number 0, loop heads [] -/
noncomputable def bl_X0_init_0 : am_B := (0, [(.aload_n 0, []), (.invokespecial 3, [1000000]), (.aload_n 0, []), (.aload_n 1, []), (.putfield 9, [0, 0, 2, 1]), (.aload_n 0, []), (.aload_n 2, []), (.putfield 15, [0, 1, 2, 1]), (.aload_n 0, []), (.bipush 13, []), (.newarray .long, [11]), (.putfield 19, [0, 2, 2, 1]), (.aload_n 0, []), (.bipush 13, []), (.newarray .long, [11]), (.putfield 23, [0, 3, 2, 1]), (.return_, [])], none)
noncomputable def bk_X0_init : List am_B := [bl_X0_init_0]
noncomputable def ck_X0_init : List (List (Nat × List Nat)) := [[(1, []), (3, [265, 100, 101]), (1, []), (1, []), (3, [266]), (1, []), (1, []), (3, [267]), (1, []), (2, []), (2, []), (3, [268]), (1, []), (2, []), (2, []), (3, [269]), (1, [])]]
theorem ok_X0_init : am_ck 0 bk_X0_init ck_X0_init = true := am_ckD (by decide +kernel)
theorem ml_X0_init : am_ml 0 = 3 := by decide +kernel
theorem pn_X0_init : plainName (am_y 0).cls = true := by decide +kernel
/-- PaceBorder$Chance.pairsIn(I)J: number 1, loop heads [1] -/
noncomputable def bl_X0_pairsIn_0 : am_B := (0, [(.lconst 1, []), (.lstore_n 1, []), (.iconst 0, []), (.istore_n 3, [])], some 1001)
noncomputable def bl_X0_pairsIn_1 : am_B := (4, [(.iload_n 3, []), (.iload_n 0, []), (.if_icmp .ge 15, [1003, 2])], none)
noncomputable def bl_X0_pairsIn_2 : am_B := (9, [(.lload_n 1, []), (.ldc2_w 26, [16]), (.lmul, []), (.lstore_n 1, []), (.iinc 3 1, []), (.goto (-14), [1001])], none)
noncomputable def bl_X0_pairsIn_3 : am_B := (21, [(.lload_n 1, []), (.lreturn, [])], none)
noncomputable def bk_X0_pairsIn : List am_B := [bl_X0_pairsIn_0, bl_X0_pairsIn_1, bl_X0_pairsIn_2, bl_X0_pairsIn_3]
noncomputable def ck_X0_pairsIn : List (List (Nat × List Nat)) := [[(1, []), (1, []), (1, []), (1, [])],
  [(1, []), (1, []), (3, [])],
  [(1, []), (3, [880]), (1, []), (1, []), (3, []), (3, [])],
  [(1, []), (1, [])]]
theorem ok_X0_pairsIn : am_ck 1 bk_X0_pairsIn ck_X0_pairsIn = true := am_ckD (by decide +kernel)
theorem ml_X0_pairsIn : am_ml 1 = 4 := by decide +kernel
theorem pn_X0_pairsIn : plainName (am_y 1).cls = true := by decide +kernel
/-- PaceBorder$Chance.pairsEndingAt(II)J: number 2, loop heads [1] -/
noncomputable def bl_X0_pairsEndingAt_0 : am_B := (0, [(.aload_n 0, []), (.invokevirtual 28, [6, 0, 0, 0]), (.iconst 0, []), (.istore_n 3, [])], some 1001)
noncomputable def bl_X0_pairsEndingAt_1 : am_B := (6, [(.iload_n 3, []), (.iload_n 2, []), (.if_icmp .ge 23, [1003, 2])], none)
noncomputable def bl_X0_pairsEndingAt_2 : am_B := (11, [(.aload_n 0, []), (.aload_n 0, []), (.getfield 15, [0, 1, 2]), (.getfield 31, [1, 0, 0]), (.iload_n 3, []), (.iadd, []), (.iconst (-1), []), (.invokevirtual 37, [8, 2, 0, 0]), (.iinc 3 1, []), (.goto (-22), [1001])], none)
noncomputable def bl_X0_pairsEndingAt_3 : am_B := (31, [(.aload_n 0, []), (.iload_n 1, []), (.invokevirtual 41, [7, 1, 0, 2]), (.lreturn, [])], none)
noncomputable def bk_X0_pairsEndingAt : List am_B := [bl_X0_pairsEndingAt_0, bl_X0_pairsEndingAt_1, bl_X0_pairsEndingAt_2, bl_X0_pairsEndingAt_3]
noncomputable def ck_X0_pairsEndingAt : List (List (Nat × List Nat)) := [[(1, []), (3, [854, 856, 20, 88]), (1, []), (1, [])],
  [(1, []), (1, []), (3, [])],
  [(1, []), (1, []), (3, [267]), (3, [197]), (1, []), (1, []), (1, []), (3, [859, 861, 21, 88]), (3, []), (3, [])],
  [(1, []), (1, []), (3, [868, 870, 23, 88]), (1, [])]]
theorem ok_X0_pairsEndingAt : am_ck 2 bk_X0_pairsEndingAt ck_X0_pairsEndingAt = true := am_ckD (by decide +kernel)
theorem ml_X0_pairsEndingAt : am_ml 2 = 4 := by decide +kernel
theorem pn_X0_pairsEndingAt : plainName (am_y 2).cls = true := by decide +kernel
/-- PaceBorder$Chance.pairsMeeting(II)J: number 3, loop heads [1] -/
noncomputable def bl_X0_pairsMeeting_0 : am_B := (0, [(.aload_n 0, []), (.invokevirtual 28, [6, 0, 0, 0]), (.iconst 0, []), (.istore_n 3, [])], some 1001)
noncomputable def bl_X0_pairsMeeting_1 : am_B := (6, [(.iload_n 3, []), (.iload_n 2, []), (.if_icmp .ge 23, [1003, 2])], none)
noncomputable def bl_X0_pairsMeeting_2 : am_B := (11, [(.aload_n 0, []), (.aload_n 0, []), (.getfield 15, [0, 1, 2]), (.getfield 31, [1, 0, 0]), (.iload_n 3, []), (.iadd, []), (.iload_n 1, []), (.invokevirtual 37, [8, 2, 0, 0]), (.iinc 3 1, []), (.goto (-22), [1001])], none)
noncomputable def bl_X0_pairsMeeting_3 : am_B := (31, [(.aload_n 0, []), (.iload_n 1, []), (.invokevirtual 41, [7, 1, 0, 2]), (.lreturn, [])], none)
noncomputable def bk_X0_pairsMeeting : List am_B := [bl_X0_pairsMeeting_0, bl_X0_pairsMeeting_1, bl_X0_pairsMeeting_2, bl_X0_pairsMeeting_3]
noncomputable def ck_X0_pairsMeeting : List (List (Nat × List Nat)) := [[(1, []), (3, [854, 856, 20, 88]), (1, []), (1, [])],
  [(1, []), (1, []), (3, [])],
  [(1, []), (1, []), (3, [267]), (3, [197]), (1, []), (1, []), (1, []), (3, [859, 861, 21, 88]), (3, []), (3, [])],
  [(1, []), (1, []), (3, [868, 870, 23, 88]), (1, [])]]
theorem ok_X0_pairsMeeting : am_ck 3 bk_X0_pairsMeeting ck_X0_pairsMeeting = true := am_ckD (by decide +kernel)
theorem ml_X0_pairsMeeting : am_ml 3 = 4 := by decide +kernel
theorem pn_X0_pairsMeeting : plainName (am_y 3).cls = true := by decide +kernel
/-- PaceBorder$Chance.duesOf(II)J: number 4, loop heads [1] -/
noncomputable def bl_X0_duesOf_0 : am_B := (0, [(.aload_n 0, []), (.invokevirtual 28, [6, 0, 0, 0]), (.lconst 0, []), (.lstore_n 3, []), (.iconst 0, []), (.istore 5, [])], some 1001)
noncomputable def bl_X0_duesOf_1 : am_B := (9, [(.iload 5, []), (.iload_n 2, []), (.if_icmp .ge 54, [1005, 2])], none)
noncomputable def bl_X0_duesOf_2 : am_B := (15, [(.aload_n 0, []), (.aload_n 0, []), (.getfield 15, [0, 1, 2]), (.getfield 31, [1, 0, 0]), (.iload 5, []), (.iadd, []), (.iconst (-1), []), (.invokevirtual 37, [8, 2, 0, 0]), (.lload_n 3, []), (.ldc2_w 26, [16]), (.lmul, []), (.lstore_n 3, []), (.aload_n 0, []), (.getfield 15, [0, 1, 2]), (.getfield 31, [1, 0, 0]), (.iload 5, []), (.iadd, []), (.invokestatic 45, [12, 1, 0, 1]), (.ifCond .eq 11, [4, 3])], none)
noncomputable def bl_X0_duesOf_3 : am_B := (52, [(.lload_n 3, []), (.aload_n 0, []), (.iload_n 1, []), (.invokevirtual 49, [5, 1, 0, 2]), (.ladd, []), (.lstore_n 3, [])], some 4)
noncomputable def bl_X0_duesOf_4 : am_B := (60, [(.iinc 5 1, []), (.goto (-54), [1001])], none)
noncomputable def bl_X0_duesOf_5 : am_B := (66, [(.lload_n 3, []), (.lreturn, [])], none)
noncomputable def bk_X0_duesOf : List am_B := [bl_X0_duesOf_0, bl_X0_duesOf_1, bl_X0_duesOf_2, bl_X0_duesOf_3, bl_X0_duesOf_4, bl_X0_duesOf_5]
noncomputable def ck_X0_duesOf : List (List (Nat × List Nat)) := [[(1, []), (3, [854, 856, 20, 88]), (1, []), (1, []), (1, []), (2, [])],
  [(2, []), (1, []), (3, [])],
  [(1, []), (1, []), (3, [267]), (3, [197]), (2, []), (1, []), (1, []), (3, [859, 861, 21, 88]), (1, []), (3, [880]), (1, []), (1, []), (1, []), (3, [267]), (3, [197]), (2, []), (1, []), (3, [897, 630, 86]), (3, [])],
  [(1, []), (1, []), (1, []), (3, [898, 900, 25, 88]), (1, []), (1, [])],
  [(3, []), (3, [])],
  [(1, []), (1, [])]]
theorem ok_X0_duesOf : am_ck 4 bk_X0_duesOf ck_X0_duesOf = true := am_ckD (by decide +kernel)
theorem ml_X0_duesOf : am_ml 4 = 6 := by decide +kernel
theorem pn_X0_duesOf : plainName (am_y 4).cls = true := by decide +kernel
/-- PaceBorder$Chance.duesNow(I)J: number 5, loop heads [1] -/
noncomputable def bl_X0_duesNow_0 : am_B := (0, [(.lconst 0, []), (.lstore_n 2, []), (.iconst 0, []), (.istore 4, [])], some 1001)
noncomputable def bl_X0_duesNow_1 : am_B := (5, [(.iload 4, []), (.aload_n 0, []), (.getfield 9, [0, 0, 2]), (.getfield 52, [2, 0, 0]), (.if_icmp .gt 34, [1003, 2])], none)
noncomputable def bl_X0_duesNow_2 : am_B := (17, [(.lload_n 2, []), (.aload_n 0, []), (.iload 4, []), (.invokevirtual 41, [7, 1, 0, 2]), (.aload_n 0, []), (.getfield 15, [0, 1, 2]), (.aload_n 0, []), (.getfield 9, [0, 0, 2]), (.iload_n 1, []), (.iload 4, []), (.invokevirtual 57, [24, 3, 1, 1]), (.i2l, []), (.lmul, []), (.ladd, []), (.lstore_n 2, []), (.iinc 4 1, []), (.goto (-40), [1001])], none)
noncomputable def bl_X0_duesNow_3 : am_B := (48, [(.lload_n 2, []), (.lreturn, [])], none)
noncomputable def bk_X0_duesNow : List am_B := [bl_X0_duesNow_0, bl_X0_duesNow_1, bl_X0_duesNow_2, bl_X0_duesNow_3]
noncomputable def ck_X0_duesNow : List (List (Nat × List Nat)) := [[(1, []), (1, []), (1, []), (2, [])],
  [(2, []), (1, []), (3, [266]), (3, [147]), (3, [])],
  [(1, []), (1, []), (2, []), (3, [868, 870, 23, 88]), (1, []), (3, [267]), (1, []), (3, [266]), (1, []), (2, []), (3, [902, 578, 579, 86]), (1, []), (1, []), (1, []), (1, []), (3, []), (3, [])],
  [(1, []), (1, [])]]
theorem ok_X0_duesNow : am_ck 5 bk_X0_duesNow ck_X0_duesNow = true := am_ckD (by decide +kernel)
theorem ml_X0_duesNow : am_ml 5 = 5 := by decide +kernel
theorem pn_X0_duesNow : plainName (am_y 5).cls = true := by decide +kernel
/-- PaceBorder$Chance.begin()V: number 6, loop heads [] -/
noncomputable def bl_X0_begin_0 : am_B := (0, [(.aload_n 0, []), (.getfield 19, [0, 2, 2]), (.lconst 0, []), (.invokestatic 61, [276, 2, 0, 0]), (.aload_n 0, []), (.getfield 15, [0, 1, 2]), (.getfield 67, [1, 1, 0]), (.ifCond .lt 28, [3, 1])], none)
noncomputable def bl_X0_begin_1 : am_B := (18, [(.aload_n 0, []), (.getfield 15, [0, 1, 2]), (.getfield 67, [1, 1, 0]), (.bipush 13, []), (.if_icmp .ge 16, [3, 2])], none)
noncomputable def bl_X0_begin_2 : am_B := (30, [(.aload_n 0, []), (.getfield 19, [0, 2, 2]), (.aload_n 0, []), (.getfield 15, [0, 1, 2]), (.getfield 67, [1, 1, 0]), (.lconst 1, []), (.lastore, [])], some 3)
noncomputable def bl_X0_begin_3 : am_B := (43, [(.return_, [])], none)
noncomputable def bk_X0_begin : List am_B := [bl_X0_begin_0, bl_X0_begin_1, bl_X0_begin_2, bl_X0_begin_3]
noncomputable def ck_X0_begin : List (List (Nat × List Nat)) := [[(1, []), (3, [268]), (1, []), (3, [858, 799, 83]), (1, []), (3, [267]), (3, [203]), (3, [])],
  [(1, []), (3, [267]), (3, [203]), (2, []), (3, [])],
  [(1, []), (3, [268]), (1, []), (3, [267]), (3, [203]), (1, []), (1, [])],
  [(1, [])]]
theorem ok_X0_begin : am_ck 6 bk_X0_begin ck_X0_begin = true := am_ckD (by decide +kernel)
theorem ml_X0_begin : am_ml 6 = 1 := by decide +kernel
theorem pn_X0_begin : plainName (am_y 6).cls = true := by decide +kernel
/-- PaceBorder$Chance.pairsAt(I)J: number 7, loop heads [] -/
noncomputable def bl_X0_pairsAt_0 : am_B := (0, [(.iload_n 1, []), (.ifCond .lt 18, [3, 1])], none)
noncomputable def bl_X0_pairsAt_1 : am_B := (4, [(.iload_n 1, []), (.bipush 13, []), (.if_icmp .ge 12, [3, 2])], none)
noncomputable def bl_X0_pairsAt_2 : am_B := (10, [(.aload_n 0, []), (.getfield 19, [0, 2, 2]), (.iload_n 1, []), (.laload, []), (.goto 4, [4])], none)
noncomputable def bl_X0_pairsAt_3 : am_B := (19, [(.lconst 0, [])], some 4)
noncomputable def bl_X0_pairsAt_4 : am_B := (20, [(.lreturn, [])], none)
noncomputable def bk_X0_pairsAt : List am_B := [bl_X0_pairsAt_0, bl_X0_pairsAt_1, bl_X0_pairsAt_2, bl_X0_pairsAt_3, bl_X0_pairsAt_4]
noncomputable def ck_X0_pairsAt : List (List (Nat × List Nat)) := [[(1, []), (3, [])],
  [(1, []), (2, []), (3, [])],
  [(1, []), (3, [268]), (1, []), (1, []), (3, [])],
  [(1, [])],
  [(1, [])]]
theorem ok_X0_pairsAt : am_ck 7 bk_X0_pairsAt ck_X0_pairsAt = true := am_ckD (by decide +kernel)
theorem ml_X0_pairsAt : am_ml 7 = 2 := by decide +kernel
theorem pn_X0_pairsAt : plainName (am_y 7).cls = true := by decide +kernel
/-- PaceBorder$Chance.goOn(II)V: number 8, loop heads [1] -/
noncomputable def bl_X0_goOn_0 : am_B := (0, [(.aload_n 0, []), (.getfield 23, [0, 3, 2]), (.lconst 0, []), (.invokestatic 61, [276, 2, 0, 0]), (.iconst 0, []), (.istore_n 3, [])], some 1001)
noncomputable def bl_X0_goOn_1 : am_B := (10, [(.iload_n 3, []), (.aload_n 0, []), (.getfield 9, [0, 0, 2]), (.getfield 52, [2, 0, 0]), (.if_icmp .gt 97, [1009, 2])], none)
noncomputable def bl_X0_goOn_2 : am_B := (21, [(.iload_n 3, []), (.iload_n 2, []), (.if_icmp .ne 7, [4, 3])], none)
noncomputable def bl_X0_goOn_3 : am_B := (26, [(.iconst 0, []), (.goto 10, [5])], none)
noncomputable def bl_X0_goOn_4 : am_B := (30, [(.aload_n 0, []), (.iload_n 3, []), (.iconst (-1), []), (.iload_n 1, []), (.invokevirtual 70, [10, 3, 0, 1])], some 5)
noncomputable def bl_X0_goOn_5 : am_B := (37, [(.istore 4, []), (.iload_n 3, []), (.iload_n 2, []), (.if_icmp .ne 7, [7, 6])], none)
noncomputable def bl_X0_goOn_6 : am_B := (44, [(.iconst 0, []), (.goto 10, [8])], none)
noncomputable def bl_X0_goOn_7 : am_B := (48, [(.aload_n 0, []), (.iload_n 3, []), (.iconst 1, []), (.iload_n 1, []), (.invokevirtual 70, [10, 3, 0, 1])], some 8)
noncomputable def bl_X0_goOn_8 : am_B := (55, [(.istore 5, []), (.aload_n 0, []), (.iload_n 3, []), (.iconst 1, []), (.isub, []), (.iload 4, []), (.i2l, []), (.aload_n 0, []), (.iload_n 3, []), (.invokevirtual 41, [7, 1, 0, 2]), (.lmul, []), (.invokevirtual 74, [9, 2, 0, 0]), (.aload_n 0, []), (.iload_n 3, []), (.bipush 16, []), (.iload 4, []), (.isub, []), (.iload 5, []), (.isub, []), (.i2l, []), (.aload_n 0, []), (.iload_n 3, []), (.invokevirtual 41, [7, 1, 0, 2]), (.lmul, []), (.invokevirtual 74, [9, 2, 0, 0]), (.aload_n 0, []), (.iload_n 3, []), (.iconst 1, []), (.iadd, []), (.iload 5, []), (.i2l, []), (.aload_n 0, []), (.iload_n 3, []), (.invokevirtual 41, [7, 1, 0, 2]), (.lmul, []), (.invokevirtual 74, [9, 2, 0, 0]), (.iinc 3 1, []), (.goto (-102), [1001])], none)
noncomputable def bl_X0_goOn_9 : am_B := (115, [(.aload_n 0, []), (.getfield 23, [0, 3, 2]), (.iconst 0, []), (.aload_n 0, []), (.getfield 19, [0, 2, 2]), (.iconst 0, []), (.bipush 13, []), (.invokestatic 78, [1000000]), (.return_, [])], none)
noncomputable def bk_X0_goOn : List am_B := [bl_X0_goOn_0, bl_X0_goOn_1, bl_X0_goOn_2, bl_X0_goOn_3, bl_X0_goOn_4, bl_X0_goOn_5, bl_X0_goOn_6, bl_X0_goOn_7, bl_X0_goOn_8, bl_X0_goOn_9]
noncomputable def ck_X0_goOn : List (List (Nat × List Nat)) := [[(1, []), (3, [269]), (1, []), (3, [858, 799, 83]), (1, []), (1, [])],
  [(1, []), (1, []), (3, [266]), (3, [147]), (3, [])],
  [(1, []), (1, []), (3, [])],
  [(1, []), (3, [])],
  [(1, []), (1, []), (1, []), (1, []), (3, [863, 865, 22, 88])],
  [(2, []), (1, []), (1, []), (3, [])],
  [(1, []), (3, [])],
  [(1, []), (1, []), (1, []), (1, []), (3, [863, 865, 22, 88])],
  [(2, []), (1, []), (1, []), (1, []), (1, []), (2, []), (1, []), (1, []), (1, []), (3, [868, 870, 23, 88]), (1, []), (3, [872, 874, 24, 88]), (1, []), (1, []), (2, []), (2, []), (1, []), (2, []), (1, []), (1, []), (1, []), (1, []), (3, [868, 870, 23, 88]), (1, []), (3, [872, 874, 24, 88]), (1, []), (1, []), (1, []), (1, []), (2, []), (1, []), (1, []), (1, []), (3, [868, 870, 23, 88]), (1, []), (3, [872, 874, 24, 88]), (3, []), (3, [])],
  [(1, []), (3, [269]), (1, []), (1, []), (3, [268]), (1, []), (2, []), (3, [876, 447, 446, 92]), (1, [])]]
theorem ok_X0_goOn : am_ck 8 bk_X0_goOn ck_X0_goOn = true := am_ckD (by decide +kernel)
theorem ml_X0_goOn : am_ml 8 = 6 := by decide +kernel
theorem pn_X0_goOn : plainName (am_y 8).cls = true := by decide +kernel
/-- PaceBorder$Chance.bring(IJ)V: number 9, loop heads [] -/
noncomputable def bl_X0_bring_0 : am_B := (0, [(.iload_n 1, []), (.ifCond .lt 19, [3, 1])], none)
noncomputable def bl_X0_bring_1 : am_B := (4, [(.iload_n 1, []), (.bipush 13, []), (.if_icmp .ge 13, [3, 2])], none)
noncomputable def bl_X0_bring_2 : am_B := (10, [(.aload_n 0, []), (.getfield 23, [0, 3, 2]), (.iload_n 1, []), (.dup2, []), (.laload, []), (.lload_n 2, []), (.ladd, []), (.lastore, [])], some 3)
noncomputable def bl_X0_bring_3 : am_B := (20, [(.return_, [])], none)
noncomputable def bk_X0_bring : List am_B := [bl_X0_bring_0, bl_X0_bring_1, bl_X0_bring_2, bl_X0_bring_3]
noncomputable def ck_X0_bring : List (List (Nat × List Nat)) := [[(1, []), (3, [])],
  [(1, []), (2, []), (3, [])],
  [(1, []), (3, [269]), (1, []), (1, []), (1, []), (1, []), (1, []), (1, [])],
  [(1, [])]]
theorem ok_X0_bring : am_ck 9 bk_X0_bring ck_X0_bring = true := am_ckD (by decide +kernel)
theorem ml_X0_bring : am_ml 9 = 4 := by decide +kernel
theorem pn_X0_bring : plainName (am_y 9).cls = true := by decide +kernel
/-- PaceBorder$Chance.pairsThatMove(III)I: number 10, loop heads [1] -/
noncomputable def bl_X0_pairsThatMove_0 : am_B := (0, [(.aload_n 0, []), (.getfield 9, [0, 0, 2]), (.iload_n 1, []), (.iload_n 2, []), (.iload_n 3, []), (.invokevirtual 84, [41, 3, 2, 1]), (.istore 4, []), (.iconst 0, []), (.istore 5, []), (.iload 4, []), (.istore 6, [])], some 1001)
noncomputable def bl_X0_pairsThatMove_1 : am_B := (19, [(.iload 4, []), (.ifCond .le 24, [1004, 2])], none)
noncomputable def bl_X0_pairsThatMove_2 : am_B := (24, [(.iload 6, []), (.iconst 3, []), (.if_icmp .gt 18, [1004, 3])], none)
noncomputable def bl_X0_pairsThatMove_3 : am_B := (30, [(.iload 5, []), (.iconst 4, []), (.iload 6, []), (.isub, []), (.iadd, []), (.istore 5, []), (.iinc 6 1, []), (.goto (-23), [1001])], none)
noncomputable def bl_X0_pairsThatMove_4 : am_B := (45, [(.iload 5, []), (.ireturn, [0])], none)
noncomputable def bk_X0_pairsThatMove : List am_B := [bl_X0_pairsThatMove_0, bl_X0_pairsThatMove_1, bl_X0_pairsThatMove_2, bl_X0_pairsThatMove_3, bl_X0_pairsThatMove_4]
noncomputable def ck_X0_pairsThatMove : List (List (Nat × List Nat)) := [[(1, []), (3, [266]), (1, []), (1, []), (1, []), (3, [867, 623, 624, 85]), (2, []), (1, []), (2, []), (2, []), (2, [])],
  [(2, []), (3, [])],
  [(2, []), (1, []), (3, [])],
  [(2, []), (1, []), (2, []), (1, []), (1, []), (2, []), (3, []), (3, [])],
  [(2, []), (1, [])]]
theorem ok_X0_pairsThatMove : am_ck 10 bk_X0_pairsThatMove ck_X0_pairsThatMove = true := am_ckD (by decide +kernel)
theorem ml_X0_pairsThatMove : am_ml 10 = 7 := by decide +kernel
theorem pn_X0_pairsThatMove : plainName (am_y 10).cls = true := by decide +kernel
