/-- PaceBorder$Turns.<init>(LPaceBorder$Ground;LPaceBorder$Days;)V: number 95, loop heads [] -/
def bk_X7_init : List am_B := [(0, [(.aload_n 0, []), (.invokespecial 3, [1000000]), (.aload_n 0, []), (.aload_n 1, []), (.putfield 9, [7, 0, 2, 1]), (.aload_n 0, []), (.aload_n 2, []), (.putfield 15, [7, 1, 2, 1]), (.aload_n 0, []), (.bipush 65, []), (.newarray .int, [10]), (.putfield 19, [7, 2, 2, 1]), (.aload_n 0, []), (.bipush 65, []), (.newarray .int, [10]), (.putfield 23, [7, 3, 2, 1]), (.return_, [])], none)]
def ck_X7_init : List (List (Nat × List Nat)) := [[(1, []), (3, [284, 100, 101]), (1, []), (1, []), (3, [285]), (1, []), (1, []), (3, [286]), (1, []), (2, []), (2, []), (3, [287]), (1, []), (2, []), (2, []), (3, [288]), (1, [])]]
theorem ok_X7_init : am_ck 95 bk_X7_init ck_X7_init = true := by decide +kernel
theorem ml_X7_init : am_ml 95 = 3 := by decide +kernel
theorem pn_X7_init : plainName (am_y 95).cls = true := by decide +kernel
/-- PaceBorder$Turns.solve(II)V: number 96, loop heads [1, 4, 6] -/
def bk_X7_solve : List am_B := [(0, [(.aload_n 0, []), (.iload_n 2, []), (.putfield 26, [7, 4, 0, 0]), (.iconst 0, []), (.istore_n 3, [])], some 1001),
  (7, [(.iload_n 3, []), (.aload_n 0, []), (.getfield 9, [7, 0, 2]), (.getfield 30, [2, 0, 0]), (.if_icmp .gt 27, [3, 2])], none),
  (18, [(.aload_n 0, []), (.iload_n 1, []), (.iload_n 3, []), (.iconst 2, []), (.iload_n 3, []), (.imul, []), (.aload_n 0, []), (.getfield 9, [7, 0, 2]), (.getfield 30, [2, 0, 0]), (.isub, []), (.iconst 0, []), (.invokevirtual 35, [100, 4, 7]), (.iinc 3 1, []), (.goto (-32), [1001])], none),
  (42, [(.iload_n 1, []), (.iconst 1, []), (.isub, []), (.istore_n 3, [])], some 1004),
  (46, [(.iload_n 3, []), (.ifCond .lt 37, [9, 5])], none),
  (50, [(.iconst 0, []), (.istore 4, [])], some 1006),
  (53, [(.iload 4, []), (.aload_n 0, []), (.getfield 9, [7, 0, 2]), (.getfield 30, [2, 0, 0]), (.if_icmp .gt 16, [8, 7])], none),
  (65, [(.aload_n 0, []), (.iload_n 3, []), (.iload 4, []), (.invokevirtual 39, [97, 2, 7]), (.iinc 4 1, []), (.goto (-22), [1006])], none),
  (78, [(.iinc 3 (-1), []), (.goto (-35), [1004])], none),
  (84, [(.return_, [])], none)]
def ck_X7_solve : List (List (Nat × List Nat)) := [[(1, []), (1, []), (3, [289]), (1, []), (1, [])],
  [(1, []), (1, []), (3, [285]), (3, [144]), (3, [])],
  [(1, []), (1, []), (1, []), (1, []), (1, []), (1, []), (1, []), (3, [285]), (3, [144]), (1, []), (1, []), (3, [914, 916, 26, 89]), (3, []), (3, [])],
  [(1, []), (1, []), (1, []), (1, [])],
  [(1, []), (3, [])],
  [(1, []), (2, [])],
  [(2, []), (1, []), (3, [285]), (3, [144]), (3, [])],
  [(1, []), (1, []), (2, []), (3, [921, 923, 27, 89]), (3, []), (3, [])],
  [(3, []), (3, [])],
  [(1, [])]]
theorem ok_X7_solve : am_ck 96 bk_X7_solve ck_X7_solve = true := by decide +kernel
theorem ml_X7_solve : am_ml 96 = 5 := by decide +kernel
theorem pn_X7_solve : plainName (am_y 96).cls = true := by decide +kernel
/-- PaceBorder$Turns.choose(II)V: number 97, loop heads [1] -/
def bk_X7_choose : List am_B := [(0, [(.iconst 0, []), (.istore_n 3, []), (.iconst 0, []), (.istore 4, []), (.iconst 0, []), (.istore 5, [])], some 1001),
  (8, [(.iload 5, []), (.iconst 3, []), (.if_icmp .gt 46, [6, 2])], none),
  (14, [(.aload_n 0, []), (.iload_n 1, []), (.iload_n 2, []), (.iload 5, []), (.aload_n 0, []), (.iload_n 1, []), (.iload_n 2, []), (.iload 5, []), (.invokevirtual 43, [98, 3, 7]), (.invokevirtual 47, [99, 4, 7]), (.istore 6, []), (.iload 5, []), (.ifCond .eq 10, [4, 3])], none),
  (37, [(.iload 6, []), (.iload 4, []), (.if_icmp .le 10, [5, 4])], none),
  (44, [(.iload 6, []), (.istore 4, []), (.iload 5, []), (.istore_n 3, [])], some 5),
  (51, [(.iinc 5 1, []), (.goto (-46), [1001])], none),
  (57, [(.aload_n 0, []), (.iload_n 1, []), (.iload_n 2, []), (.iload 4, []), (.iload_n 3, []), (.invokevirtual 35, [100, 4, 7]), (.return_, [])], none)]
def ck_X7_choose : List (List (Nat × List Nat)) := [[(1, []), (1, []), (1, []), (2, []), (1, []), (2, [])],
  [(2, []), (1, []), (3, [])],
  [(1, []), (1, []), (1, []), (2, []), (1, []), (1, []), (1, []), (2, []), (3, [925, 927, 28, 89]), (3, [929, 931, 29, 89]), (2, []), (2, []), (3, [])],
  [(2, []), (2, []), (3, [])],
  [(2, []), (2, []), (2, []), (1, [])],
  [(3, []), (3, [])],
  [(1, []), (1, []), (1, []), (2, []), (1, []), (3, [914, 916, 26, 89]), (1, [])]]
theorem ok_X7_choose : am_ck 97 bk_X7_choose ck_X7_choose = true := by decide +kernel
theorem ml_X7_choose : am_ml 97 = 7 := by decide +kernel
theorem pn_X7_choose : plainName (am_y 97).cls = true := by decide +kernel
/-- PaceBorder$Turns.bestReply(III)I: number 98, loop heads [1] -/
def bk_X7_bestReply : List am_B := [(0, [(.iconst 0, []), (.istore 4, []), (.aload_n 0, []), (.iload_n 1, []), (.iload_n 2, []), (.iload_n 3, []), (.iconst 0, []), (.invokevirtual 47, [99, 4, 7]), (.istore 5, []), (.iconst 1, []), (.istore 6, [])], some 1001),
  (16, [(.iload 6, []), (.iconst 3, []), (.if_icmp .gt 35, [5, 2])], none),
  (22, [(.aload_n 0, []), (.iload_n 1, []), (.iload_n 2, []), (.iload_n 3, []), (.iload 6, []), (.invokevirtual 47, [99, 4, 7]), (.istore 7, []), (.iload 7, []), (.iload 5, []), (.if_icmp .ge 11, [4, 3])], none),
  (40, [(.iload 7, []), (.istore 5, []), (.iload 6, []), (.istore 4, [])], some 4),
  (48, [(.iinc 6 1, []), (.goto (-35), [1001])], none),
  (54, [(.iload 4, []), (.ireturn, [0])], none)]
def ck_X7_bestReply : List (List (Nat × List Nat)) := [[(1, []), (2, []), (1, []), (1, []), (1, []), (1, []), (1, []), (3, [929, 931, 29, 89]), (2, []), (1, []), (2, [])],
  [(2, []), (1, []), (3, [])],
  [(1, []), (1, []), (1, []), (1, []), (2, []), (3, [929, 931, 29, 89]), (2, []), (2, []), (2, []), (3, [])],
  [(2, []), (2, []), (2, []), (2, [])],
  [(3, []), (3, [])],
  [(2, []), (1, [])]]
theorem ok_X7_bestReply : am_ck 98 bk_X7_bestReply ck_X7_bestReply = true := by decide +kernel
theorem ml_X7_bestReply : am_ml 98 = 8 := by decide +kernel
theorem pn_X7_bestReply : plainName (am_y 98).cls = true := by decide +kernel
/-- PaceBorder$Turns.worthOfBoth(IIII)I: number 99, loop heads [] -/
def bk_X7_worthOfBoth : List am_B := [(0, [(.aload_n 0, []), (.getfield 9, [7, 0, 2]), (.iload_n 2, []), (.aload_n 0, []), (.getfield 15, [7, 1, 2]), (.getfield 51, [1, 0, 0]), (.iload_n 1, []), (.iadd, []), (.iload_n 3, []), (.iload 4, []), (.invokevirtual 56, [42, 4, 2]), (.istore 5, []), (.aload_n 0, []), (.getfield 26, [7, 4, 0]), (.iload_n 3, []), (.iload 4, []), (.isub, []), (.imul, []), (.aload_n 0, []), (.iload_n 1, []), (.iconst 1, []), (.iadd, []), (.iload 5, []), (.invokevirtual 59, [101, 2, 7]), (.iadd, []), (.ireturn, [0])], none)]
def ck_X7_worthOfBoth : List (List (Nat × List Nat)) := [[(1, []), (3, [285]), (1, []), (1, []), (3, [286]), (3, [198]), (1, []), (1, []), (1, []), (2, []), (3, [933, 616, 617, 85]), (2, []), (1, []), (3, [289]), (1, []), (2, []), (1, []), (1, []), (1, []), (1, []), (1, []), (1, []), (2, []), (3, [934, 935, 936, 89]), (1, []), (1, [])]]
theorem ok_X7_worthOfBoth : am_ck 99 bk_X7_worthOfBoth ck_X7_worthOfBoth = true := by decide +kernel
theorem ml_X7_worthOfBoth : am_ml 99 = 6 := by decide +kernel
theorem pn_X7_worthOfBoth : plainName (am_y 99).cls = true := by decide +kernel
/-- PaceBorder$Turns.note(IIII)V: number 100, loop heads [] -/
def bk_X7_note : List am_B := [(0, [(.iload_n 1, []), (.iload_n 2, []), (.invokestatic 63, [103, 2, 0]), (.ifCond .eq 28, [2, 1])], none),
  (8, [(.aload_n 0, []), (.getfield 19, [7, 2, 2]), (.iload_n 1, []), (.bipush 13, []), (.imul, []), (.iload_n 2, []), (.iadd, []), (.iload_n 3, []), (.iastore, []), (.aload_n 0, []), (.getfield 23, [7, 3, 2]), (.iload_n 1, []), (.bipush 13, []), (.imul, []), (.iload_n 2, []), (.iadd, []), (.iload 4, []), (.iastore, [])], some 2),
  (33, [(.return_, [])], none)]
def ck_X7_note : List (List (Nat × List Nat)) := [[(1, []), (1, []), (3, [918, 919, 89]), (3, [])],
  [(1, []), (3, [287]), (1, []), (2, []), (1, []), (1, []), (1, []), (1, []), (1, []), (1, []), (3, [288]), (1, []), (2, []), (1, []), (1, []), (1, []), (2, []), (1, [])],
  [(1, [])]]
theorem ok_X7_note : am_ck 100 bk_X7_note ck_X7_note = true := by decide +kernel
theorem ml_X7_note : am_ml 100 = 5 := by decide +kernel
theorem pn_X7_note : plainName (am_y 100).cls = true := by decide +kernel
/-- PaceBorder$Turns.worthOf(II)I: number 101, loop heads [] -/
def bk_X7_worthOf : List am_B := [(0, [(.iload_n 1, []), (.iload_n 2, []), (.invokestatic 63, [103, 2, 0]), (.ifCond .eq 17, [2, 1])], none),
  (8, [(.aload_n 0, []), (.getfield 19, [7, 2, 2]), (.iload_n 1, []), (.bipush 13, []), (.imul, []), (.iload_n 2, []), (.iadd, []), (.iaload, []), (.goto 4, [3])], none),
  (22, [(.iconst 0, [])], some 3),
  (23, [(.ireturn, [0])], none)]
def ck_X7_worthOf : List (List (Nat × List Nat)) := [[(1, []), (1, []), (3, [918, 919, 89]), (3, [])],
  [(1, []), (3, [287]), (1, []), (2, []), (1, []), (1, []), (1, []), (1, []), (3, [])],
  [(1, [])],
  [(1, [])]]
theorem ok_X7_worthOf : am_ck 101 bk_X7_worthOf ck_X7_worthOf = true := by decide +kernel
theorem ml_X7_worthOf : am_ml 101 = 3 := by decide +kernel
theorem pn_X7_worthOf : plainName (am_y 101).cls = true := by decide +kernel
/-- PaceBorder$Turns.bestSaying(II)I: number 102, loop heads [] -/
def bk_X7_bestSaying : List am_B := [(0, [(.iload_n 1, []), (.iload_n 2, []), (.invokestatic 63, [103, 2, 0]), (.ifCond .eq 17, [2, 1])], none),
  (8, [(.aload_n 0, []), (.getfield 23, [7, 3, 2]), (.iload_n 1, []), (.bipush 13, []), (.imul, []), (.iload_n 2, []), (.iadd, []), (.iaload, []), (.goto 4, [3])], none),
  (22, [(.iconst 0, [])], some 3),
  (23, [(.ireturn, [0])], none)]
def ck_X7_bestSaying : List (List (Nat × List Nat)) := [[(1, []), (1, []), (3, [918, 919, 89]), (3, [])],
  [(1, []), (3, [288]), (1, []), (2, []), (1, []), (1, []), (1, []), (1, []), (3, [])],
  [(1, [])],
  [(1, [])]]
theorem ok_X7_bestSaying : am_ck 102 bk_X7_bestSaying ck_X7_bestSaying = true := by decide +kernel
theorem ml_X7_bestSaying : am_ml 102 = 3 := by decide +kernel
theorem pn_X7_bestSaying : plainName (am_y 102).cls = true := by decide +kernel
/-- PaceBorder$Turns.isSlot(II)Z: number 103, loop heads [] -/
def bk_X7_isSlot : List am_B := [(0, [(.iload_n 0, []), (.ifCond .lt 22, [5, 1])], none),
  (4, [(.iload_n 0, []), (.iconst 4, []), (.if_icmp .gt 17, [5, 2])], none),
  (9, [(.iload_n 1, []), (.ifCond .lt 13, [5, 3])], none),
  (13, [(.iload_n 1, []), (.bipush 13, []), (.if_icmp .ge 7, [5, 4])], none),
  (19, [(.iconst 1, []), (.goto 4, [6])], none),
  (23, [(.iconst 0, [])], some 6),
  (24, [(.ireturn, [1])], none)]
def ck_X7_isSlot : List (List (Nat × List Nat)) := [[(1, []), (3, [])],
  [(1, []), (1, []), (3, [])],
  [(1, []), (3, [])],
  [(1, []), (2, []), (3, [])],
  [(1, []), (3, [])],
  [(1, [])],
  [(1, [])]]
theorem ok_X7_isSlot : am_ck 103 bk_X7_isSlot ck_X7_isSlot = true := by decide +kernel
theorem ml_X7_isSlot : am_ml 103 = 2 := by decide +kernel
theorem pn_X7_isSlot : plainName (am_y 103).cls = true := by decide +kernel
/-- PaceBorder$Turns.isCalm(I)Z: number 104, loop heads [1] -/
def bk_X7_isCalm : List am_B := [(0, [(.iconst 0, []), (.istore_n 2, [])], some 1001),
  (2, [(.iload_n 2, []), (.iload_n 1, []), (.if_icmp .ge 42, [6, 2])], none),
  (7, [(.aload_n 0, []), (.iload_n 2, []), (.aload_n 0, []), (.getfield 15, [7, 1, 2]), (.getfield 67, [1, 1, 0]), (.invokevirtual 70, [102, 2, 7]), (.ifCond .ne 19, [4, 3])], none),
  (22, [(.aload_n 0, []), (.iload_n 2, []), (.aload_n 0, []), (.getfield 15, [7, 1, 2]), (.getfield 67, [1, 1, 0]), (.iconst 0, []), (.invokevirtual 43, [98, 3, 7]), (.ifCond .eq 5, [5, 4])], none),
  (38, [(.iconst 0, []), (.ireturn, [1])], none),
  (40, [(.iinc 2 1, []), (.goto (-41), [1001])], none),
  (46, [(.iconst 1, []), (.ireturn, [1])], none)]
def ck_X7_isCalm : List (List (Nat × List Nat)) := [[(1, []), (1, [])],
  [(1, []), (1, []), (3, [])],
  [(1, []), (1, []), (1, []), (3, [286]), (3, [204]), (3, [955, 944, 945, 89]), (3, [])],
  [(1, []), (1, []), (1, []), (3, [286]), (3, [204]), (1, []), (3, [925, 927, 28, 89]), (3, [])],
  [(1, []), (1, [])],
  [(3, []), (3, [])],
  [(1, []), (1, [])]]
theorem ok_X7_isCalm : am_ck 104 bk_X7_isCalm ck_X7_isCalm = true := by decide +kernel
theorem ml_X7_isCalm : am_ml 104 = 3 := by decide +kernel
theorem pn_X7_isCalm : plainName (am_y 104).cls = true := by decide +kernel
