/-- PaceBorder$Turns.<init>(LPaceBorder$Ground;LPaceBorder$Days;)V: number 95, loop heads [] -/
noncomputable def bl_X7_init_0 : am_B := (0, [(.aload_n 0, []), (.invokespecial 3, [1000000]), (.aload_n 0, []), (.aload_n 1, []), (.putfield 9, [7, 0, 2, 1]), (.aload_n 0, []), (.aload_n 2, []), (.putfield 15, [7, 1, 2, 1]), (.aload_n 0, []), (.bipush 65, []), (.newarray .int, [10]), (.putfield 19, [7, 2, 2, 1]), (.aload_n 0, []), (.bipush 65, []), (.newarray .int, [10]), (.putfield 23, [7, 3, 2, 1]), (.return_, [])], none)
noncomputable def bk_X7_init : List am_B := [bl_X7_init_0]
noncomputable def ck_X7_init : List (List (Nat × List Nat)) := [[(1, []), (3, [284, 100, 101]), (1, []), (1, []), (3, [285]), (1, []), (1, []), (3, [286]), (1, []), (2, []), (2, []), (3, [287]), (1, []), (2, []), (2, []), (3, [288]), (1, [])]]
theorem ok_X7_init : am_ck 95 bk_X7_init ck_X7_init = true := am_ckD (by decide +kernel)
theorem ml_X7_init : am_ml 95 = 3 := by decide +kernel
theorem pn_X7_init : plainName (am_y 95).cls = true := by decide +kernel
/-- PaceBorder$Turns.solve(II)V: number 96, loop heads [1, 4, 6] -/
noncomputable def bl_X7_solve_0 : am_B := (0, [(.aload_n 0, []), (.iload_n 2, []), (.putfield 26, [7, 4, 0, 0]), (.iconst 0, []), (.istore_n 3, [])], some 1001)
noncomputable def bl_X7_solve_1 : am_B := (7, [(.iload_n 3, []), (.aload_n 0, []), (.getfield 9, [7, 0, 2]), (.getfield 30, [2, 0, 0]), (.if_icmp .gt 27, [1003, 2])], none)
noncomputable def bl_X7_solve_2 : am_B := (18, [(.aload_n 0, []), (.iload_n 1, []), (.iload_n 3, []), (.iconst 2, []), (.iload_n 3, []), (.imul, []), (.aload_n 0, []), (.getfield 9, [7, 0, 2]), (.getfield 30, [2, 0, 0]), (.isub, []), (.iconst 0, []), (.invokevirtual 35, [100, 4, 7, 0]), (.iinc 3 1, []), (.goto (-32), [1001])], none)
noncomputable def bl_X7_solve_3 : am_B := (42, [(.iload_n 1, []), (.iconst 1, []), (.isub, []), (.istore_n 3, [])], some 1004)
noncomputable def bl_X7_solve_4 : am_B := (46, [(.iload_n 3, []), (.ifCond .lt 37, [1009, 5])], none)
noncomputable def bl_X7_solve_5 : am_B := (50, [(.iconst 0, []), (.istore 4, [])], some 1006)
noncomputable def bl_X7_solve_6 : am_B := (53, [(.iload 4, []), (.aload_n 0, []), (.getfield 9, [7, 0, 2]), (.getfield 30, [2, 0, 0]), (.if_icmp .gt 16, [1008, 7])], none)
noncomputable def bl_X7_solve_7 : am_B := (65, [(.aload_n 0, []), (.iload_n 3, []), (.iload 4, []), (.invokevirtual 39, [97, 2, 7, 0]), (.iinc 4 1, []), (.goto (-22), [1006])], none)
noncomputable def bl_X7_solve_8 : am_B := (78, [(.iinc 3 (-1), []), (.goto (-35), [1004])], none)
noncomputable def bl_X7_solve_9 : am_B := (84, [(.return_, [])], none)
noncomputable def bk_X7_solve : List am_B := [bl_X7_solve_0, bl_X7_solve_1, bl_X7_solve_2, bl_X7_solve_3, bl_X7_solve_4, bl_X7_solve_5, bl_X7_solve_6, bl_X7_solve_7, bl_X7_solve_8, bl_X7_solve_9]
noncomputable def ck_X7_solve : List (List (Nat × List Nat)) := [[(1, []), (1, []), (3, [289]), (1, []), (1, [])],
  [(1, []), (1, []), (3, [285]), (3, [144]), (3, [])],
  [(1, []), (1, []), (1, []), (1, []), (1, []), (1, []), (1, []), (3, [285]), (3, [144]), (1, []), (1, []), (3, [914, 916, 26, 89]), (3, []), (3, [])],
  [(1, []), (1, []), (1, []), (1, [])],
  [(1, []), (3, [])],
  [(1, []), (2, [])],
  [(2, []), (1, []), (3, [285]), (3, [144]), (3, [])],
  [(1, []), (1, []), (2, []), (3, [921, 923, 27, 89]), (3, []), (3, [])],
  [(3, []), (3, [])],
  [(1, [])]]
theorem ok_X7_solve : am_ck 96 bk_X7_solve ck_X7_solve = true := am_ckD (by decide +kernel)
theorem ml_X7_solve : am_ml 96 = 5 := by decide +kernel
theorem pn_X7_solve : plainName (am_y 96).cls = true := by decide +kernel
/-- PaceBorder$Turns.choose(II)V: number 97, loop heads [1] -/
noncomputable def bl_X7_choose_0 : am_B := (0, [(.iconst 0, []), (.istore_n 3, []), (.iconst 0, []), (.istore 4, []), (.iconst 0, []), (.istore 5, [])], some 1001)
noncomputable def bl_X7_choose_1 : am_B := (8, [(.iload 5, []), (.iconst 3, []), (.if_icmp .gt 46, [1006, 2])], none)
noncomputable def bl_X7_choose_2 : am_B := (14, [(.aload_n 0, []), (.iload_n 1, []), (.iload_n 2, []), (.iload 5, []), (.aload_n 0, []), (.iload_n 1, []), (.iload_n 2, []), (.iload 5, []), (.invokevirtual 43, [98, 3, 7, 1]), (.invokevirtual 47, [99, 4, 7, 1]), (.istore 6, []), (.iload 5, []), (.ifCond .eq 10, [4, 3])], none)
noncomputable def bl_X7_choose_3 : am_B := (37, [(.iload 6, []), (.iload 4, []), (.if_icmp .le 10, [5, 4])], none)
noncomputable def bl_X7_choose_4 : am_B := (44, [(.iload 6, []), (.istore 4, []), (.iload 5, []), (.istore_n 3, [])], some 5)
noncomputable def bl_X7_choose_5 : am_B := (51, [(.iinc 5 1, []), (.goto (-46), [1001])], none)
noncomputable def bl_X7_choose_6 : am_B := (57, [(.aload_n 0, []), (.iload_n 1, []), (.iload_n 2, []), (.iload 4, []), (.iload_n 3, []), (.invokevirtual 35, [100, 4, 7, 0]), (.return_, [])], none)
noncomputable def bk_X7_choose : List am_B := [bl_X7_choose_0, bl_X7_choose_1, bl_X7_choose_2, bl_X7_choose_3, bl_X7_choose_4, bl_X7_choose_5, bl_X7_choose_6]
noncomputable def ck_X7_choose : List (List (Nat × List Nat)) := [[(1, []), (1, []), (1, []), (2, []), (1, []), (2, [])],
  [(2, []), (1, []), (3, [])],
  [(1, []), (1, []), (1, []), (2, []), (1, []), (1, []), (1, []), (2, []), (3, [925, 927, 28, 89]), (3, [929, 931, 29, 89]), (2, []), (2, []), (3, [])],
  [(2, []), (2, []), (3, [])],
  [(2, []), (2, []), (2, []), (1, [])],
  [(3, []), (3, [])],
  [(1, []), (1, []), (1, []), (2, []), (1, []), (3, [914, 916, 26, 89]), (1, [])]]
theorem ok_X7_choose : am_ck 97 bk_X7_choose ck_X7_choose = true := am_ckD (by decide +kernel)
theorem ml_X7_choose : am_ml 97 = 7 := by decide +kernel
theorem pn_X7_choose : plainName (am_y 97).cls = true := by decide +kernel
/-- PaceBorder$Turns.bestReply(III)I: number 98, loop heads [1] -/
noncomputable def bl_X7_bestReply_0 : am_B := (0, [(.iconst 0, []), (.istore 4, []), (.aload_n 0, []), (.iload_n 1, []), (.iload_n 2, []), (.iload_n 3, []), (.iconst 0, []), (.invokevirtual 47, [99, 4, 7, 1]), (.istore 5, []), (.iconst 1, []), (.istore 6, [])], some 1001)
noncomputable def bl_X7_bestReply_1 : am_B := (16, [(.iload 6, []), (.iconst 3, []), (.if_icmp .gt 35, [1005, 2])], none)
noncomputable def bl_X7_bestReply_2 : am_B := (22, [(.aload_n 0, []), (.iload_n 1, []), (.iload_n 2, []), (.iload_n 3, []), (.iload 6, []), (.invokevirtual 47, [99, 4, 7, 1]), (.istore 7, []), (.iload 7, []), (.iload 5, []), (.if_icmp .ge 11, [4, 3])], none)
noncomputable def bl_X7_bestReply_3 : am_B := (40, [(.iload 7, []), (.istore 5, []), (.iload 6, []), (.istore 4, [])], some 4)
noncomputable def bl_X7_bestReply_4 : am_B := (48, [(.iinc 6 1, []), (.goto (-35), [1001])], none)
noncomputable def bl_X7_bestReply_5 : am_B := (54, [(.iload 4, []), (.ireturn, [0])], none)
noncomputable def bk_X7_bestReply : List am_B := [bl_X7_bestReply_0, bl_X7_bestReply_1, bl_X7_bestReply_2, bl_X7_bestReply_3, bl_X7_bestReply_4, bl_X7_bestReply_5]
noncomputable def ck_X7_bestReply : List (List (Nat × List Nat)) := [[(1, []), (2, []), (1, []), (1, []), (1, []), (1, []), (1, []), (3, [929, 931, 29, 89]), (2, []), (1, []), (2, [])],
  [(2, []), (1, []), (3, [])],
  [(1, []), (1, []), (1, []), (1, []), (2, []), (3, [929, 931, 29, 89]), (2, []), (2, []), (2, []), (3, [])],
  [(2, []), (2, []), (2, []), (2, [])],
  [(3, []), (3, [])],
  [(2, []), (1, [])]]
theorem ok_X7_bestReply : am_ck 98 bk_X7_bestReply ck_X7_bestReply = true := am_ckD (by decide +kernel)
theorem ml_X7_bestReply : am_ml 98 = 8 := by decide +kernel
theorem pn_X7_bestReply : plainName (am_y 98).cls = true := by decide +kernel
/-- PaceBorder$Turns.worthOfBoth(IIII)I: number 99, loop heads [] -/
noncomputable def bl_X7_worthOfBoth_0 : am_B := (0, [(.aload_n 0, []), (.getfield 9, [7, 0, 2]), (.iload_n 2, []), (.aload_n 0, []), (.getfield 15, [7, 1, 2]), (.getfield 51, [1, 0, 0]), (.iload_n 1, []), (.iadd, []), (.iload_n 3, []), (.iload 4, []), (.invokevirtual 56, [42, 4, 2, 1]), (.istore 5, []), (.aload_n 0, []), (.getfield 26, [7, 4, 0]), (.iload_n 3, []), (.iload 4, []), (.isub, []), (.imul, []), (.aload_n 0, []), (.iload_n 1, []), (.iconst 1, []), (.iadd, []), (.iload 5, []), (.invokevirtual 59, [101, 2, 7, 1]), (.iadd, []), (.ireturn, [0])], none)
noncomputable def bk_X7_worthOfBoth : List am_B := [bl_X7_worthOfBoth_0]
noncomputable def ck_X7_worthOfBoth : List (List (Nat × List Nat)) := [[(1, []), (3, [285]), (1, []), (1, []), (3, [286]), (3, [198]), (1, []), (1, []), (1, []), (2, []), (3, [933, 616, 617, 85]), (2, []), (1, []), (3, [289]), (1, []), (2, []), (1, []), (1, []), (1, []), (1, []), (1, []), (1, []), (2, []), (3, [934, 935, 936, 89]), (1, []), (1, [])]]
theorem ok_X7_worthOfBoth : am_ck 99 bk_X7_worthOfBoth ck_X7_worthOfBoth = true := am_ckD (by decide +kernel)
theorem ml_X7_worthOfBoth : am_ml 99 = 6 := by decide +kernel
theorem pn_X7_worthOfBoth : plainName (am_y 99).cls = true := by decide +kernel
/-- PaceBorder$Turns.note(IIII)V: number 100, loop heads [] -/
noncomputable def bl_X7_note_0 : am_B := (0, [(.iload_n 1, []), (.iload_n 2, []), (.invokestatic 63, [103, 2, 0, 1]), (.ifCond .eq 28, [2, 1])], none)
noncomputable def bl_X7_note_1 : am_B := (8, [(.aload_n 0, []), (.getfield 19, [7, 2, 2]), (.iload_n 1, []), (.bipush 13, []), (.imul, []), (.iload_n 2, []), (.iadd, []), (.iload_n 3, []), (.iastore, []), (.aload_n 0, []), (.getfield 23, [7, 3, 2]), (.iload_n 1, []), (.bipush 13, []), (.imul, []), (.iload_n 2, []), (.iadd, []), (.iload 4, []), (.iastore, [])], some 2)
noncomputable def bl_X7_note_2 : am_B := (33, [(.return_, [])], none)
noncomputable def bk_X7_note : List am_B := [bl_X7_note_0, bl_X7_note_1, bl_X7_note_2]
noncomputable def ck_X7_note : List (List (Nat × List Nat)) := [[(1, []), (1, []), (3, [918, 919, 89]), (3, [])],
  [(1, []), (3, [287]), (1, []), (2, []), (1, []), (1, []), (1, []), (1, []), (1, []), (1, []), (3, [288]), (1, []), (2, []), (1, []), (1, []), (1, []), (2, []), (1, [])],
  [(1, [])]]
theorem ok_X7_note : am_ck 100 bk_X7_note ck_X7_note = true := am_ckD (by decide +kernel)
theorem ml_X7_note : am_ml 100 = 5 := by decide +kernel
theorem pn_X7_note : plainName (am_y 100).cls = true := by decide +kernel
/-- PaceBorder$Turns.worthOf(II)I: number 101, loop heads [] -/
noncomputable def bl_X7_worthOf_0 : am_B := (0, [(.iload_n 1, []), (.iload_n 2, []), (.invokestatic 63, [103, 2, 0, 1]), (.ifCond .eq 17, [2, 1])], none)
noncomputable def bl_X7_worthOf_1 : am_B := (8, [(.aload_n 0, []), (.getfield 19, [7, 2, 2]), (.iload_n 1, []), (.bipush 13, []), (.imul, []), (.iload_n 2, []), (.iadd, []), (.iaload, []), (.goto 4, [3])], none)
noncomputable def bl_X7_worthOf_2 : am_B := (22, [(.iconst 0, [])], some 3)
noncomputable def bl_X7_worthOf_3 : am_B := (23, [(.ireturn, [0])], none)
noncomputable def bk_X7_worthOf : List am_B := [bl_X7_worthOf_0, bl_X7_worthOf_1, bl_X7_worthOf_2, bl_X7_worthOf_3]
noncomputable def ck_X7_worthOf : List (List (Nat × List Nat)) := [[(1, []), (1, []), (3, [918, 919, 89]), (3, [])],
  [(1, []), (3, [287]), (1, []), (2, []), (1, []), (1, []), (1, []), (1, []), (3, [])],
  [(1, [])],
  [(1, [])]]
theorem ok_X7_worthOf : am_ck 101 bk_X7_worthOf ck_X7_worthOf = true := am_ckD (by decide +kernel)
theorem ml_X7_worthOf : am_ml 101 = 3 := by decide +kernel
theorem pn_X7_worthOf : plainName (am_y 101).cls = true := by decide +kernel
/-- PaceBorder$Turns.bestSaying(II)I: number 102, loop heads [] -/
noncomputable def bl_X7_bestSaying_0 : am_B := (0, [(.iload_n 1, []), (.iload_n 2, []), (.invokestatic 63, [103, 2, 0, 1]), (.ifCond .eq 17, [2, 1])], none)
noncomputable def bl_X7_bestSaying_1 : am_B := (8, [(.aload_n 0, []), (.getfield 23, [7, 3, 2]), (.iload_n 1, []), (.bipush 13, []), (.imul, []), (.iload_n 2, []), (.iadd, []), (.iaload, []), (.goto 4, [3])], none)
noncomputable def bl_X7_bestSaying_2 : am_B := (22, [(.iconst 0, [])], some 3)
noncomputable def bl_X7_bestSaying_3 : am_B := (23, [(.ireturn, [0])], none)
noncomputable def bk_X7_bestSaying : List am_B := [bl_X7_bestSaying_0, bl_X7_bestSaying_1, bl_X7_bestSaying_2, bl_X7_bestSaying_3]
noncomputable def ck_X7_bestSaying : List (List (Nat × List Nat)) := [[(1, []), (1, []), (3, [918, 919, 89]), (3, [])],
  [(1, []), (3, [288]), (1, []), (2, []), (1, []), (1, []), (1, []), (1, []), (3, [])],
  [(1, [])],
  [(1, [])]]
theorem ok_X7_bestSaying : am_ck 102 bk_X7_bestSaying ck_X7_bestSaying = true := am_ckD (by decide +kernel)
theorem ml_X7_bestSaying : am_ml 102 = 3 := by decide +kernel
theorem pn_X7_bestSaying : plainName (am_y 102).cls = true := by decide +kernel
/-- PaceBorder$Turns.isSlot(II)Z: number 103, loop heads [] -/
noncomputable def bl_X7_isSlot_0 : am_B := (0, [(.iload_n 0, []), (.ifCond .lt 22, [5, 1])], none)
noncomputable def bl_X7_isSlot_1 : am_B := (4, [(.iload_n 0, []), (.iconst 4, []), (.if_icmp .gt 17, [5, 2])], none)
noncomputable def bl_X7_isSlot_2 : am_B := (9, [(.iload_n 1, []), (.ifCond .lt 13, [5, 3])], none)
noncomputable def bl_X7_isSlot_3 : am_B := (13, [(.iload_n 1, []), (.bipush 13, []), (.if_icmp .ge 7, [5, 4])], none)
noncomputable def bl_X7_isSlot_4 : am_B := (19, [(.iconst 1, []), (.goto 4, [6])], none)
noncomputable def bl_X7_isSlot_5 : am_B := (23, [(.iconst 0, [])], some 6)
noncomputable def bl_X7_isSlot_6 : am_B := (24, [(.ireturn, [1])], none)
noncomputable def bk_X7_isSlot : List am_B := [bl_X7_isSlot_0, bl_X7_isSlot_1, bl_X7_isSlot_2, bl_X7_isSlot_3, bl_X7_isSlot_4, bl_X7_isSlot_5, bl_X7_isSlot_6]
noncomputable def ck_X7_isSlot : List (List (Nat × List Nat)) := [[(1, []), (3, [])],
  [(1, []), (1, []), (3, [])],
  [(1, []), (3, [])],
  [(1, []), (2, []), (3, [])],
  [(1, []), (3, [])],
  [(1, [])],
  [(1, [])]]
theorem ok_X7_isSlot : am_ck 103 bk_X7_isSlot ck_X7_isSlot = true := am_ckD (by decide +kernel)
theorem ml_X7_isSlot : am_ml 103 = 2 := by decide +kernel
theorem pn_X7_isSlot : plainName (am_y 103).cls = true := by decide +kernel
/-- PaceBorder$Turns.isCalm(I)Z: number 104, loop heads [1] -/
noncomputable def bl_X7_isCalm_0 : am_B := (0, [(.iconst 0, []), (.istore_n 2, [])], some 1001)
noncomputable def bl_X7_isCalm_1 : am_B := (2, [(.iload_n 2, []), (.iload_n 1, []), (.if_icmp .ge 42, [1006, 2])], none)
noncomputable def bl_X7_isCalm_2 : am_B := (7, [(.aload_n 0, []), (.iload_n 2, []), (.aload_n 0, []), (.getfield 15, [7, 1, 2]), (.getfield 67, [1, 1, 0]), (.invokevirtual 70, [102, 2, 7, 1]), (.ifCond .ne 19, [1004, 3])], none)
noncomputable def bl_X7_isCalm_3 : am_B := (22, [(.aload_n 0, []), (.iload_n 2, []), (.aload_n 0, []), (.getfield 15, [7, 1, 2]), (.getfield 67, [1, 1, 0]), (.iconst 0, []), (.invokevirtual 43, [98, 3, 7, 1]), (.ifCond .eq 5, [5, 1004])], none)
noncomputable def bl_X7_isCalm_4 : am_B := (38, [(.iconst 0, []), (.ireturn, [1])], none)
noncomputable def bl_X7_isCalm_5 : am_B := (40, [(.iinc 2 1, []), (.goto (-41), [1001])], none)
noncomputable def bl_X7_isCalm_6 : am_B := (46, [(.iconst 1, []), (.ireturn, [1])], none)
noncomputable def bk_X7_isCalm : List am_B := [bl_X7_isCalm_0, bl_X7_isCalm_1, bl_X7_isCalm_2, bl_X7_isCalm_3, bl_X7_isCalm_4, bl_X7_isCalm_5, bl_X7_isCalm_6]
noncomputable def ck_X7_isCalm : List (List (Nat × List Nat)) := [[(1, []), (1, [])],
  [(1, []), (1, []), (3, [])],
  [(1, []), (1, []), (1, []), (3, [286]), (3, [204]), (3, [955, 944, 945, 89]), (3, [])],
  [(1, []), (1, []), (1, []), (3, [286]), (3, [204]), (1, []), (3, [925, 927, 28, 89]), (3, [])],
  [(1, []), (1, [])],
  [(3, []), (3, [])],
  [(1, []), (1, [])]]
theorem ok_X7_isCalm : am_ck 104 bk_X7_isCalm ck_X7_isCalm = true := am_ckD (by decide +kernel)
theorem ml_X7_isCalm : am_ml 104 = 3 := by decide +kernel
theorem pn_X7_isCalm : plainName (am_y 104).cls = true := by decide +kernel
