/-- PaceBorder$Days.<init>()V: number 11, loop heads [] -/
noncomputable def bl_X1_init_0 : am_B := (0, [(.aload_n 0, []), (.invokespecial 3, [1000000]), (.aload_n 0, []), (.bipush 40, []), (.newarray .int, [10]), (.putfield 9, [1, 4, 2, 1]), (.aload_n 0, []), (.bipush 40, []), (.newarray .int, [10]), (.putfield 15, [1, 5, 2, 1]), (.aload_n 0, []), (.bipush 41, []), (.newarray .int, [10]), (.putfield 18, [1, 6, 2, 1]), (.aload_n 0, []), (.bipush 96, []), (.newarray .int, [10]), (.putfield 21, [1, 7, 2, 1]), (.return_, [])], none)
noncomputable def bk_X1_init : List am_B := [bl_X1_init_0]
noncomputable def ck_X1_init : List (List (Nat × List Nat)) := [[(1, []), (3, [193, 100, 101]), (1, []), (2, []), (2, []), (3, [208]), (1, []), (2, []), (2, []), (3, [209]), (1, []), (2, []), (2, []), (3, [210]), (1, []), (2, []), (2, []), (3, [211]), (1, [])]]
theorem ok_X1_init : am_ck 11 bk_X1_init ck_X1_init = true := am_ckD (by decide +kernel)
theorem ml_X1_init : am_ml 11 = 1 := by decide +kernel
theorem pn_X1_init : plainName (am_y 11).cls = true := by decide +kernel
/-- PaceBorder$Days.isTaxDay(I)Z: number 12, loop heads [] -/
noncomputable def bl_X1_isTaxDay_0 : am_B := (0, [(.iload_n 0, []), (.ifCond .lt 22, [4, 1])], none)
noncomputable def bl_X1_isTaxDay_1 : am_B := (4, [(.iload_n 0, []), (.bipush 40, []), (.if_icmp .ge 16, [4, 2])], none)
noncomputable def bl_X1_isTaxDay_2 : am_B := (10, [(.iload_n 0, []), (.bipush 10, []), (.irem, []), (.bipush 9, []), (.if_icmp .ne 7, [4, 3])], none)
noncomputable def bl_X1_isTaxDay_3 : am_B := (19, [(.iconst 1, []), (.goto 4, [5])], none)
noncomputable def bl_X1_isTaxDay_4 : am_B := (23, [(.iconst 0, [])], some 5)
noncomputable def bl_X1_isTaxDay_5 : am_B := (24, [(.ireturn, [1])], none)
noncomputable def bk_X1_isTaxDay : List am_B := [bl_X1_isTaxDay_0, bl_X1_isTaxDay_1, bl_X1_isTaxDay_2, bl_X1_isTaxDay_3, bl_X1_isTaxDay_4, bl_X1_isTaxDay_5]
noncomputable def ck_X1_isTaxDay : List (List (Nat × List Nat)) := [[(1, []), (3, [])],
  [(1, []), (2, []), (3, [])],
  [(1, []), (2, []), (1, []), (2, []), (3, [])],
  [(1, []), (3, [])],
  [(1, [])],
  [(1, [])]]
theorem ok_X1_isTaxDay : am_ck 12 bk_X1_isTaxDay ck_X1_isTaxDay = true := am_ckD (by decide +kernel)
theorem ml_X1_isTaxDay : am_ml 12 = 1 := by decide +kernel
theorem pn_X1_isTaxDay : plainName (am_y 12).cls = true := by decide +kernel
/-- PaceBorder$Days.begin(III)V: number 13, loop heads [] -/
noncomputable def bl_X1_begin_0 : am_B := (0, [(.aload_n 0, []), (.iconst 0, []), (.putfield 24, [1, 0, 0, 0]), (.aload_n 0, []), (.iload_n 1, []), (.putfield 28, [1, 1, 0, 0]), (.aload_n 0, []), (.iload_n 2, []), (.putfield 31, [1, 2, 0, 0]), (.aload_n 0, []), (.iload_n 3, []), (.putfield 34, [1, 3, 0, 0]), (.aload_n 0, []), (.getfield 18, [1, 6, 2]), (.iconst 0, []), (.iload_n 1, []), (.iastore, []), (.return_, [])], none)
noncomputable def bk_X1_begin : List am_B := [bl_X1_begin_0]
noncomputable def ck_X1_begin : List (List (Nat × List Nat)) := [[(1, []), (1, []), (3, [196]), (1, []), (1, []), (3, [201]), (1, []), (1, []), (3, [206]), (1, []), (1, []), (3, [207]), (1, []), (3, [210]), (1, []), (1, []), (1, []), (1, [])]]
theorem ok_X1_begin : am_ck 13 bk_X1_begin ck_X1_begin = true := am_ckD (by decide +kernel)
theorem ml_X1_begin : am_ml 13 = 4 := by decide +kernel
theorem pn_X1_begin : plainName (am_y 13).cls = true := by decide +kernel
/-- PaceBorder$Days.carry(LPaceBorder$Days;LPaceBorder$Days;)V: number 14, loop heads [] -/
noncomputable def bl_X1_carry_0 : am_B := (0, [(.aload_n 0, []), (.ifnull 7, [2, 1])], none)
noncomputable def bl_X1_carry_1 : am_B := (4, [(.aload_n 1, []), (.ifnonnull 4, [3, 2])], none)
noncomputable def bl_X1_carry_2 : am_B := (8, [(.return_, [])], none)
noncomputable def bl_X1_carry_3 : am_B := (9, [(.aload_n 1, []), (.aload_n 0, []), (.getfield 24, [1, 0, 0]), (.putfield 24, [1, 0, 0, 0]), (.aload_n 1, []), (.aload_n 0, []), (.getfield 28, [1, 1, 0]), (.putfield 28, [1, 1, 0, 0]), (.aload_n 1, []), (.aload_n 0, []), (.getfield 31, [1, 2, 0]), (.putfield 31, [1, 2, 0, 0]), (.aload_n 1, []), (.aload_n 0, []), (.getfield 34, [1, 3, 0]), (.putfield 34, [1, 3, 0, 0]), (.aload_n 0, []), (.getfield 9, [1, 4, 2]), (.iconst 0, []), (.aload_n 1, []), (.getfield 9, [1, 4, 2]), (.iconst 0, []), (.bipush 40, []), (.invokestatic 37, [1000000]), (.aload_n 0, []), (.getfield 15, [1, 5, 2]), (.iconst 0, []), (.aload_n 1, []), (.getfield 15, [1, 5, 2]), (.iconst 0, []), (.bipush 40, []), (.invokestatic 37, [1000000]), (.aload_n 0, []), (.getfield 18, [1, 6, 2]), (.iconst 0, []), (.aload_n 1, []), (.getfield 18, [1, 6, 2]), (.iconst 0, []), (.bipush 41, []), (.invokestatic 37, [1000000]), (.aload_n 0, []), (.getfield 21, [1, 7, 2]), (.iconst 0, []), (.aload_n 1, []), (.getfield 21, [1, 7, 2]), (.iconst 0, []), (.bipush 96, []), (.invokestatic 37, [1000000]), (.return_, [])], none)
noncomputable def bk_X1_carry : List am_B := [bl_X1_carry_0, bl_X1_carry_1, bl_X1_carry_2, bl_X1_carry_3]
noncomputable def ck_X1_carry : List (List (Nat × List Nat)) := [[(1, []), (3, [])],
  [(1, []), (3, [])],
  [(1, [])],
  [(1, []), (1, []), (3, [196]), (3, [196]), (1, []), (1, []), (3, [201]), (3, [201]), (1, []), (1, []), (3, [206]), (3, [206]), (1, []), (1, []), (3, [207]), (3, [207]), (1, []), (3, [208]), (1, []), (1, []), (3, [208]), (1, []), (2, []), (3, [665, 447, 446, 92]), (1, []), (3, [209]), (1, []), (1, []), (3, [209]), (1, []), (2, []), (3, [665, 447, 446, 92]), (1, []), (3, [210]), (1, []), (1, []), (3, [210]), (1, []), (2, []), (3, [665, 447, 446, 92]), (1, []), (3, [211]), (1, []), (1, []), (3, [211]), (1, []), (2, []), (3, [665, 447, 446, 92]), (1, [])]]
theorem ok_X1_carry : am_ck 14 bk_X1_carry ck_X1_carry = true := am_ckD (by decide +kernel)
theorem ml_X1_carry : am_ml 14 = 2 := by decide +kernel
theorem pn_X1_carry : plainName (am_y 14).cls = true := by decide +kernel
/-- PaceBorder$Days.rateOf(I)I: number 15, loop heads [] -/
noncomputable def bl_X1_rateOf_0 : am_B := (0, [(.iload_n 1, []), (.ifCond .ne 10, [2, 1])], none)
noncomputable def bl_X1_rateOf_1 : am_B := (4, [(.aload_n 0, []), (.getfield 31, [1, 2, 0]), (.goto 7, [3])], none)
noncomputable def bl_X1_rateOf_2 : am_B := (11, [(.aload_n 0, []), (.getfield 34, [1, 3, 0])], some 3)
noncomputable def bl_X1_rateOf_3 : am_B := (15, [(.ireturn, [0])], none)
noncomputable def bk_X1_rateOf : List am_B := [bl_X1_rateOf_0, bl_X1_rateOf_1, bl_X1_rateOf_2, bl_X1_rateOf_3]
noncomputable def ck_X1_rateOf : List (List (Nat × List Nat)) := [[(1, []), (3, [])],
  [(1, []), (3, [206]), (3, [])],
  [(1, []), (3, [207])],
  [(1, [])]]
theorem ok_X1_rateOf : am_ck 15 bk_X1_rateOf ck_X1_rateOf = true := am_ckD (by decide +kernel)
theorem ml_X1_rateOf : am_ml 15 = 2 := by decide +kernel
theorem pn_X1_rateOf : plainName (am_y 15).cls = true := by decide +kernel
/-- PaceBorder$Days.setRate(II)V: number 16, loop heads [] -/
noncomputable def bl_X1_setRate_0 : am_B := (0, [(.iload_n 1, []), (.ifCond .ne 11, [2, 1])], none)
noncomputable def bl_X1_setRate_1 : am_B := (4, [(.aload_n 0, []), (.iload_n 2, []), (.putfield 31, [1, 2, 0, 0]), (.goto 8, [3])], none)
noncomputable def bl_X1_setRate_2 : am_B := (12, [(.aload_n 0, []), (.iload_n 2, []), (.putfield 34, [1, 3, 0, 0])], some 3)
noncomputable def bl_X1_setRate_3 : am_B := (17, [(.return_, [])], none)
noncomputable def bk_X1_setRate : List am_B := [bl_X1_setRate_0, bl_X1_setRate_1, bl_X1_setRate_2, bl_X1_setRate_3]
noncomputable def ck_X1_setRate : List (List (Nat × List Nat)) := [[(1, []), (3, [])],
  [(1, []), (1, []), (3, [206]), (3, [])],
  [(1, []), (1, []), (3, [207])],
  [(1, [])]]
theorem ok_X1_setRate : am_ck 16 bk_X1_setRate ck_X1_setRate = true := am_ckD (by decide +kernel)
theorem ml_X1_setRate : am_ml 16 = 3 := by decide +kernel
theorem pn_X1_setRate : plainName (am_y 16).cls = true := by decide +kernel
/-- PaceBorder$Days.pass(LPaceBorder$Ground;II)V: number 17, loop heads [] -/
noncomputable def bl_X1_pass_0 : am_B := (0, [(.aload_n 0, []), (.getfield 24, [1, 0, 0]), (.ifCond .lt 12, [2, 1])], none)
noncomputable def bl_X1_pass_1 : am_B := (7, [(.aload_n 0, []), (.getfield 24, [1, 0, 0]), (.bipush 40, []), (.if_icmp .lt 4, [3, 2])], none)
noncomputable def bl_X1_pass_2 : am_B := (16, [(.return_, [])], none)
noncomputable def bl_X1_pass_3 : am_B := (17, [(.aload_n 0, []), (.getfield 9, [1, 4, 2]), (.aload_n 0, []), (.getfield 24, [1, 0, 0]), (.iload_n 2, []), (.iastore, []), (.aload_n 0, []), (.getfield 15, [1, 5, 2]), (.aload_n 0, []), (.getfield 24, [1, 0, 0]), (.iload_n 3, []), (.iastore, []), (.aload_n 0, []), (.aload_n 1, []), (.aload_n 0, []), (.getfield 28, [1, 1, 0]), (.aload_n 0, []), (.getfield 24, [1, 0, 0]), (.iload_n 2, []), (.iload_n 3, []), (.invokevirtual 43, [42, 4, 2, 1]), (.putfield 28, [1, 1, 0, 0]), (.aload_n 0, []), (.getfield 24, [1, 0, 0]), (.invokestatic 49, [12, 1, 0, 1]), (.ifCond .eq 8, [5, 4])], none)
noncomputable def bl_X1_pass_4 : am_B := (65, [(.aload_n 0, []), (.aload_n 1, []), (.invokevirtual 53, [18, 1, 1, 0])], some 5)
noncomputable def bl_X1_pass_5 : am_B := (70, [(.aload_n 0, []), (.dup, []), (.getfield 24, [1, 0, 0]), (.iconst 1, []), (.iadd, []), (.putfield 24, [1, 0, 0, 0]), (.aload_n 0, []), (.getfield 18, [1, 6, 2]), (.aload_n 0, []), (.getfield 24, [1, 0, 0]), (.aload_n 0, []), (.getfield 28, [1, 1, 0]), (.iastore, []), (.return_, [])], none)
noncomputable def bk_X1_pass : List am_B := [bl_X1_pass_0, bl_X1_pass_1, bl_X1_pass_2, bl_X1_pass_3, bl_X1_pass_4, bl_X1_pass_5]
noncomputable def ck_X1_pass : List (List (Nat × List Nat)) := [[(1, []), (3, [196]), (3, [])],
  [(1, []), (3, [196]), (2, []), (3, [])],
  [(1, [])],
  [(1, []), (3, [208]), (1, []), (3, [196]), (1, []), (1, []), (1, []), (3, [209]), (1, []), (3, [196]), (1, []), (1, []), (1, []), (1, []), (1, []), (3, [201]), (1, []), (3, [196]), (1, []), (1, []), (3, [615, 616, 617, 85]), (3, [201]), (1, []), (3, [196]), (3, [629, 630, 86]), (3, [])],
  [(1, []), (1, []), (3, [632, 634, 9, 86])],
  [(1, []), (1, []), (3, [196]), (1, []), (1, []), (3, [196]), (1, []), (3, [210]), (1, []), (3, [196]), (1, []), (3, [201]), (1, []), (1, [])]]
theorem ok_X1_pass : am_ck 17 bk_X1_pass ck_X1_pass = true := am_ckD (by decide +kernel)
theorem ml_X1_pass : am_ml 17 = 4 := by decide +kernel
theorem pn_X1_pass : plainName (am_y 17).cls = true := by decide +kernel
/-- PaceBorder$Days.collect(LPaceBorder$Ground;)V: number 18, loop heads [1, 3] -/
noncomputable def bl_X1_collect_0 : am_B := (0, [(.iconst 0, []), (.istore_n 2, [])], some 1001)
noncomputable def bl_X1_collect_1 : am_B := (2, [(.iload_n 2, []), (.aload_n 1, []), (.getfield 57, [2, 0, 0]), (.if_icmp .ge 70, [1009, 2])], none)
noncomputable def bl_X1_collect_2 : am_B := (10, [(.iconst 0, []), (.istore_n 3, [])], some 1003)
noncomputable def bl_X1_collect_3 : am_B := (12, [(.iload_n 3, []), (.iconst 2, []), (.if_icmp .ge 57, [1008, 4])], none)
noncomputable def bl_X1_collect_4 : am_B := (17, [(.aload_n 0, []), (.getfield 24, [1, 0, 0]), (.bipush 10, []), (.idiv, []), (.iload_n 2, []), (.iload_n 3, []), (.invokestatic 60, [19, 3, 0, 1]), (.istore 4, []), (.iload 4, []), (.ifCond .lt 32, [7, 5])], none)
noncomputable def bl_X1_collect_5 : am_B := (36, [(.iload 4, []), (.bipush 96, []), (.if_icmp .ge 25, [7, 6])], none)
noncomputable def bl_X1_collect_6 : am_B := (43, [(.aload_n 0, []), (.getfield 21, [1, 7, 2]), (.iload 4, []), (.aload_n 1, []), (.iload_n 3, []), (.iload_n 2, []), (.aload_n 0, []), (.getfield 28, [1, 1, 0]), (.aload_n 0, []), (.iload_n 3, []), (.invokevirtual 64, [15, 1, 1, 1]), (.invokevirtual 68, [43, 4, 2, 1]), (.iastore, [])], some 7)
noncomputable def bl_X1_collect_7 : am_B := (65, [(.iinc 3 1, []), (.goto (-56), [1003])], none)
noncomputable def bl_X1_collect_8 : am_B := (71, [(.iinc 2 1, []), (.goto (-72), [1001])], none)
noncomputable def bl_X1_collect_9 : am_B := (77, [(.return_, [])], none)
noncomputable def bk_X1_collect : List am_B := [bl_X1_collect_0, bl_X1_collect_1, bl_X1_collect_2, bl_X1_collect_3, bl_X1_collect_4, bl_X1_collect_5, bl_X1_collect_6, bl_X1_collect_7, bl_X1_collect_8, bl_X1_collect_9]
noncomputable def ck_X1_collect : List (List (Nat × List Nat)) := [[(1, []), (1, [])],
  [(1, []), (1, []), (3, [148]), (3, [])],
  [(1, []), (1, [])],
  [(1, []), (1, []), (3, [])],
  [(1, []), (3, [196]), (2, []), (1, []), (1, []), (1, []), (3, [553, 554, 86]), (2, []), (2, []), (3, [])],
  [(2, []), (2, []), (3, [])],
  [(1, []), (3, [211]), (2, []), (1, []), (1, []), (1, []), (1, []), (3, [201]), (1, []), (1, []), (3, [636, 600, 601, 86]), (3, [581, 582, 583, 85]), (1, [])],
  [(3, []), (3, [])],
  [(3, []), (3, [])],
  [(1, [])]]
theorem ok_X1_collect : am_ck 18 bk_X1_collect ck_X1_collect = true := am_ckD (by decide +kernel)
theorem ml_X1_collect : am_ml 18 = 5 := by decide +kernel
theorem pn_X1_collect : plainName (am_y 18).cls = true := by decide +kernel
/-- PaceBorder$Days.slotOf(III)I: number 19, loop heads [] -/
noncomputable def bl_X1_slotOf_0 : am_B := (0, [(.iload_n 0, []), (.bipush 12, []), (.imul, []), (.iload_n 1, []), (.iadd, []), (.iconst 2, []), (.imul, []), (.iload_n 2, []), (.iadd, []), (.ireturn, [0])], none)
noncomputable def bk_X1_slotOf : List am_B := [bl_X1_slotOf_0]
noncomputable def ck_X1_slotOf : List (List (Nat × List Nat)) := [[(1, []), (2, []), (1, []), (1, []), (1, []), (1, []), (1, []), (1, []), (1, []), (1, [])]]
theorem ok_X1_slotOf : am_ck 19 bk_X1_slotOf ck_X1_slotOf = true := am_ckD (by decide +kernel)
theorem ml_X1_slotOf : am_ml 19 = 3 := by decide +kernel
theorem pn_X1_slotOf : plainName (am_y 19).cls = true := by decide +kernel
/-- PaceBorder$Days.goBackTo(I)V: number 20, loop heads [] -/
noncomputable def bl_X1_goBackTo_0 : am_B := (0, [(.iload_n 1, []), (.ifCond .lt 25, [3, 1])], none)
noncomputable def bl_X1_goBackTo_1 : am_B := (4, [(.iload_n 1, []), (.aload_n 0, []), (.getfield 24, [1, 0, 0]), (.if_icmp .gt 17, [3, 2])], none)
noncomputable def bl_X1_goBackTo_2 : am_B := (12, [(.aload_n 0, []), (.aload_n 0, []), (.iload_n 1, []), (.invokevirtual 71, [21, 1, 1, 1]), (.putfield 28, [1, 1, 0, 0]), (.aload_n 0, []), (.iload_n 1, []), (.putfield 24, [1, 0, 0, 0])], some 3)
noncomputable def bl_X1_goBackTo_3 : am_B := (26, [(.return_, [])], none)
noncomputable def bk_X1_goBackTo : List am_B := [bl_X1_goBackTo_0, bl_X1_goBackTo_1, bl_X1_goBackTo_2, bl_X1_goBackTo_3]
noncomputable def ck_X1_goBackTo : List (List (Nat × List Nat)) := [[(1, []), (3, [])],
  [(1, []), (1, []), (3, [196]), (3, [])],
  [(1, []), (1, []), (1, []), (3, [560, 561, 562, 86]), (3, [201]), (1, []), (1, []), (3, [196])],
  [(1, [])]]
theorem ok_X1_goBackTo : am_ck 20 bk_X1_goBackTo ck_X1_goBackTo = true := am_ckD (by decide +kernel)
theorem ml_X1_goBackTo : am_ml 20 = 2 := by decide +kernel
theorem pn_X1_goBackTo : plainName (am_y 20).cls = true := by decide +kernel
/-- PaceBorder$Days.borderAhead(I)I: number 21, loop heads [] -/
noncomputable def bl_X1_borderAhead_0 : am_B := (0, [(.iload_n 1, []), (.ifCond .lt 18, [3, 1])], none)
noncomputable def bl_X1_borderAhead_1 : am_B := (4, [(.iload_n 1, []), (.bipush 40, []), (.if_icmp .gt 12, [3, 2])], none)
noncomputable def bl_X1_borderAhead_2 : am_B := (10, [(.aload_n 0, []), (.getfield 18, [1, 6, 2]), (.iload_n 1, []), (.iaload, []), (.goto 4, [4])], none)
noncomputable def bl_X1_borderAhead_3 : am_B := (19, [(.iconst 0, [])], some 4)
noncomputable def bl_X1_borderAhead_4 : am_B := (20, [(.ireturn, [0])], none)
noncomputable def bk_X1_borderAhead : List am_B := [bl_X1_borderAhead_0, bl_X1_borderAhead_1, bl_X1_borderAhead_2, bl_X1_borderAhead_3, bl_X1_borderAhead_4]
noncomputable def ck_X1_borderAhead : List (List (Nat × List Nat)) := [[(1, []), (3, [])],
  [(1, []), (2, []), (3, [])],
  [(1, []), (3, [210]), (1, []), (1, []), (3, [])],
  [(1, [])],
  [(1, [])]]
theorem ok_X1_borderAhead : am_ck 21 bk_X1_borderAhead ck_X1_borderAhead = true := am_ckD (by decide +kernel)
theorem ml_X1_borderAhead : am_ml 21 = 2 := by decide +kernel
theorem pn_X1_borderAhead : plainName (am_y 21).cls = true := by decide +kernel
/-- PaceBorder$Days.paidBy(II)I: number 22, loop heads [1] -/
noncomputable def bl_X1_paidBy_0 : am_B := (0, [(.iconst 0, []), (.istore_n 3, []), (.iconst 0, []), (.istore 4, [])], some 1001)
noncomputable def bl_X1_paidBy_1 : am_B := (5, [(.iload 4, []), (.aload_n 0, []), (.getfield 24, [1, 0, 0]), (.bipush 10, []), (.idiv, []), (.if_icmp .ge 40, [1006, 2])], none)
noncomputable def bl_X1_paidBy_2 : am_B := (17, [(.iload 4, []), (.iload_n 1, []), (.iload_n 2, []), (.invokestatic 60, [19, 3, 0, 1]), (.istore 5, []), (.iload 5, []), (.ifCond .lt 20, [5, 3])], none)
noncomputable def bl_X1_paidBy_3 : am_B := (31, [(.iload 5, []), (.bipush 96, []), (.if_icmp .ge 13, [5, 4])], none)
noncomputable def bl_X1_paidBy_4 : am_B := (38, [(.iload_n 3, []), (.aload_n 0, []), (.getfield 21, [1, 7, 2]), (.iload 5, []), (.iaload, []), (.iadd, []), (.istore_n 3, [])], some 5)
noncomputable def bl_X1_paidBy_5 : am_B := (48, [(.iinc 4 1, []), (.goto (-46), [1001])], none)
noncomputable def bl_X1_paidBy_6 : am_B := (54, [(.iload_n 3, []), (.ireturn, [0])], none)
noncomputable def bk_X1_paidBy : List am_B := [bl_X1_paidBy_0, bl_X1_paidBy_1, bl_X1_paidBy_2, bl_X1_paidBy_3, bl_X1_paidBy_4, bl_X1_paidBy_5, bl_X1_paidBy_6]
noncomputable def ck_X1_paidBy : List (List (Nat × List Nat)) := [[(1, []), (1, []), (1, []), (2, [])],
  [(2, []), (1, []), (3, [196]), (2, []), (1, []), (3, [])],
  [(2, []), (1, []), (1, []), (3, [553, 554, 86]), (2, []), (2, []), (3, [])],
  [(2, []), (2, []), (3, [])],
  [(1, []), (1, []), (3, [211]), (2, []), (1, []), (1, []), (1, [])],
  [(3, []), (3, [])],
  [(1, []), (1, [])]]
theorem ok_X1_paidBy : am_ck 22 bk_X1_paidBy ck_X1_paidBy = true := am_ckD (by decide +kernel)
theorem ml_X1_paidBy : am_ml 22 = 6 := by decide +kernel
theorem pn_X1_paidBy : plainName (am_y 22).cls = true := by decide +kernel
/-- PaceBorder$Days.changesOf(I)I: number 23, loop heads [1] -/
noncomputable def bl_X1_changesOf_0 : am_B := (0, [(.iconst 0, []), (.istore_n 2, []), (.iconst 0, []), (.istore_n 3, [])], some 1001)
noncomputable def bl_X1_changesOf_1 : am_B := (4, [(.iload_n 3, []), (.aload_n 0, []), (.getfield 24, [1, 0, 0]), (.if_icmp .ge 39, [1005, 2])], none)
noncomputable def bl_X1_changesOf_2 : am_B := (12, [(.iload_n 1, []), (.aload_n 0, []), (.iload_n 3, []), (.invokevirtual 71, [21, 1, 1, 1]), (.invokestatic 74, [39, 2, 0, 1]), (.istore 4, []), (.iload 4, []), (.iload_n 1, []), (.aload_n 0, []), (.iload_n 3, []), (.iconst 1, []), (.iadd, []), (.invokevirtual 71, [21, 1, 1, 1]), (.invokestatic 74, [39, 2, 0, 1]), (.if_icmp .eq 6, [4, 3])], none)
noncomputable def bl_X1_changesOf_3 : am_B := (39, [(.iinc 2 1, [])], some 4)
noncomputable def bl_X1_changesOf_4 : am_B := (42, [(.iinc 3 1, []), (.goto (-41), [1001])], none)
noncomputable def bl_X1_changesOf_5 : am_B := (48, [(.iload_n 2, []), (.ireturn, [0])], none)
noncomputable def bk_X1_changesOf : List am_B := [bl_X1_changesOf_0, bl_X1_changesOf_1, bl_X1_changesOf_2, bl_X1_changesOf_3, bl_X1_changesOf_4, bl_X1_changesOf_5]
noncomputable def ck_X1_changesOf : List (List (Nat × List Nat)) := [[(1, []), (1, []), (1, []), (1, [])],
  [(1, []), (1, []), (3, [196]), (3, [])],
  [(1, []), (1, []), (1, []), (3, [560, 561, 562, 86]), (3, [564, 547, 85]), (2, []), (2, []), (1, []), (1, []), (1, []), (1, []), (1, []), (3, [560, 561, 562, 86]), (3, [564, 547, 85]), (3, [])],
  [(3, [])],
  [(3, []), (3, [])],
  [(1, []), (1, [])]]
theorem ok_X1_changesOf : am_ck 23 bk_X1_changesOf ck_X1_changesOf = true := am_ckD (by decide +kernel)
theorem ml_X1_changesOf : am_ml 23 = 5 := by decide +kernel
theorem pn_X1_changesOf : plainName (am_y 23).cls = true := by decide +kernel
/-- PaceBorder$Days.dueOfBoth(LPaceBorder$Ground;II)I: number 24, loop heads [] -/
noncomputable def bl_X1_dueOfBoth_0 : am_B := (0, [(.aload_n 1, []), (.iconst 0, []), (.iload_n 2, []), (.iload_n 3, []), (.aload_n 0, []), (.getfield 31, [1, 2, 0]), (.invokevirtual 68, [43, 4, 2, 1]), (.aload_n 1, []), (.iconst 1, []), (.iload_n 2, []), (.iload_n 3, []), (.aload_n 0, []), (.getfield 34, [1, 3, 0]), (.invokevirtual 68, [43, 4, 2, 1]), (.iadd, []), (.ireturn, [0])], none)
noncomputable def bk_X1_dueOfBoth : List am_B := [bl_X1_dueOfBoth_0]
noncomputable def ck_X1_dueOfBoth : List (List (Nat × List Nat)) := [[(1, []), (1, []), (1, []), (1, []), (1, []), (3, [206]), (3, [581, 582, 583, 85]), (1, []), (1, []), (1, []), (1, []), (1, []), (3, [207]), (3, [581, 582, 583, 85]), (1, []), (1, [])]]
theorem ok_X1_dueOfBoth : am_ck 24 bk_X1_dueOfBoth ck_X1_dueOfBoth = true := am_ckD (by decide +kernel)
theorem ml_X1_dueOfBoth : am_ml 24 = 4 := by decide +kernel
theorem pn_X1_dueOfBoth : plainName (am_y 24).cls = true := by decide +kernel
/-- PaceBorder$Days.dueToCrown(LPaceBorder$Ground;II)I: number 25, loop heads [1] -/
noncomputable def bl_X1_dueToCrown_0 : am_B := (0, [(.iconst 0, []), (.istore 4, []), (.iconst 0, []), (.istore 5, [])], some 1001)
noncomputable def bl_X1_dueToCrown_1 : am_B := (6, [(.iload 5, []), (.aload_n 1, []), (.getfield 57, [2, 0, 0]), (.if_icmp .ge 27, [1003, 2])], none)
noncomputable def bl_X1_dueToCrown_2 : am_B := (15, [(.iload 4, []), (.aload_n 1, []), (.iload_n 2, []), (.iload 5, []), (.iload_n 3, []), (.aload_n 0, []), (.iload_n 2, []), (.invokevirtual 64, [15, 1, 1, 1]), (.invokevirtual 68, [43, 4, 2, 1]), (.iadd, []), (.istore 4, []), (.iinc 5 1, []), (.goto (-30), [1001])], none)
noncomputable def bl_X1_dueToCrown_3 : am_B := (39, [(.iload 4, []), (.ireturn, [0])], none)
noncomputable def bk_X1_dueToCrown : List am_B := [bl_X1_dueToCrown_0, bl_X1_dueToCrown_1, bl_X1_dueToCrown_2, bl_X1_dueToCrown_3]
noncomputable def ck_X1_dueToCrown : List (List (Nat × List Nat)) := [[(1, []), (2, []), (1, []), (2, [])],
  [(2, []), (1, []), (3, [148]), (3, [])],
  [(2, []), (1, []), (1, []), (2, []), (1, []), (1, []), (1, []), (3, [636, 600, 601, 86]), (3, [581, 582, 583, 85]), (1, []), (2, []), (3, []), (3, [])],
  [(2, []), (1, [])]]
theorem ok_X1_dueToCrown : am_ck 25 bk_X1_dueToCrown ck_X1_dueToCrown = true := am_ckD (by decide +kernel)
theorem ml_X1_dueToCrown : am_ml 25 = 6 := by decide +kernel
theorem pn_X1_dueToCrown : plainName (am_y 25).cls = true := by decide +kernel
/-- PaceBorder$Days.retrace(LPaceBorder$Ground;I[I)V: number 26, loop heads [3] -/
noncomputable def bl_X1_retrace_0 : am_B := (0, [(.aload_n 3, []), (.arraylength, []), (.bipush 40, []), (.if_icmp .gt 4, [2, 1])], none)
noncomputable def bl_X1_retrace_1 : am_B := (7, [(.return_, [])], none)
noncomputable def bl_X1_retrace_2 : am_B := (8, [(.aload_n 3, []), (.iconst 0, []), (.iload_n 2, []), (.iastore, []), (.iconst 0, []), (.istore 4, [])], some 1003)
noncomputable def bl_X1_retrace_3 : am_B := (15, [(.iload 4, []), (.aload_n 0, []), (.getfield 24, [1, 0, 0]), (.if_icmp .ge 46, [1006, 4])], none)
noncomputable def bl_X1_retrace_4 : am_B := (24, [(.iload 4, []), (.bipush 40, []), (.if_icmp .ge 39, [1006, 5])], none)
noncomputable def bl_X1_retrace_5 : am_B := (31, [(.aload_n 3, []), (.iload 4, []), (.iconst 1, []), (.iadd, []), (.aload_n 1, []), (.aload_n 3, []), (.iload 4, []), (.iaload, []), (.iload 4, []), (.aload_n 0, []), (.getfield 9, [1, 4, 2]), (.iload 4, []), (.iaload, []), (.aload_n 0, []), (.getfield 15, [1, 5, 2]), (.iload 4, []), (.iaload, []), (.invokevirtual 43, [42, 4, 2, 1]), (.iastore, []), (.iinc 4 1, []), (.goto (-49), [1003])], none)
noncomputable def bl_X1_retrace_6 : am_B := (67, [(.return_, [])], none)
noncomputable def bk_X1_retrace : List am_B := [bl_X1_retrace_0, bl_X1_retrace_1, bl_X1_retrace_2, bl_X1_retrace_3, bl_X1_retrace_4, bl_X1_retrace_5, bl_X1_retrace_6]
noncomputable def ck_X1_retrace : List (List (Nat × List Nat)) := [[(1, []), (1, []), (2, []), (3, [])],
  [(1, [])],
  [(1, []), (1, []), (1, []), (1, []), (1, []), (2, [])],
  [(2, []), (1, []), (3, [196]), (3, [])],
  [(2, []), (2, []), (3, [])],
  [(1, []), (2, []), (1, []), (1, []), (1, []), (1, []), (2, []), (1, []), (2, []), (1, []), (3, [208]), (2, []), (1, []), (1, []), (3, [209]), (2, []), (1, []), (3, [615, 616, 617, 85]), (1, []), (3, []), (3, [])],
  [(1, [])]]
theorem ok_X1_retrace : am_ck 26 bk_X1_retrace ck_X1_retrace = true := am_ckD (by decide +kernel)
theorem ml_X1_retrace : am_ml 26 = 5 := by decide +kernel
theorem pn_X1_retrace : plainName (am_y 26).cls = true := by decide +kernel
