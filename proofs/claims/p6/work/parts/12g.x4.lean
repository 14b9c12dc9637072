/-- PaceBorder$Plan.<init>(LPaceBorder$Ground;LPaceBorder$Days;)V: number 50, loop heads [] -/
noncomputable def bl_X4_init_0 : am_B := (0, [(.aload_n 0, []), (.invokespecial 3, [1000000]), (.aload_n 0, []), (.aload_n 1, []), (.putfield 9, [4, 0, 2, 1]), (.aload_n 0, []), (.aload_n 2, []), (.putfield 15, [4, 1, 2, 1]), (.aload_n 0, []), (.bipush 13, []), (.newarray .int, [10]), (.putfield 19, [4, 2, 2, 1]), (.aload_n 0, []), (.sipush 273, []), (.newarray .int, [10]), (.putfield 23, [4, 3, 2, 1]), (.aload_n 0, []), (.bipush 13, []), (.newarray .long, [11]), (.putfield 26, [4, 4, 2, 1]), (.aload_n 0, []), (.bipush 13, []), (.newarray .long, [11]), (.putfield 30, [4, 5, 2, 1]), (.return_, [])], none)
noncomputable def bk_X4_init : List am_B := [bl_X4_init_0]
noncomputable def ck_X4_init : List (List (Nat × List Nat)) := [[(1, []), (3, [236, 100, 101]), (1, []), (1, []), (3, [237]), (1, []), (1, []), (3, [238]), (1, []), (2, []), (2, []), (3, [239]), (1, []), (3, []), (2, []), (3, [240]), (1, []), (2, []), (2, []), (3, [241]), (1, []), (2, []), (2, []), (3, [242]), (1, [])]]
theorem ok_X4_init : am_ck 50 bk_X4_init ck_X4_init = true := am_ckD (by decide +kernel)
theorem ml_X4_init : am_ml 50 = 3 := by decide +kernel
theorem pn_X4_init : plainName (am_y 50).cls = true := by decide +kernel
/-- PaceBorder$Plan.firstThatCannotBe(LPaceBorder$Shelf;I)I: number 51, loop heads [1] -/
noncomputable def bl_X4_firstThatCannotBe_0 : am_B := (0, [(.aload_n 1, []), (.iload_n 2, []), (.invokevirtual 33, [83, 1, 6, 1]), (.istore_n 3, []), (.aload_n 0, []), (.getfield 15, [4, 1, 2]), (.getfield 39, [1, 1, 0]), (.istore 4, []), (.iconst 0, []), (.istore 5, [])], some 1001)
noncomputable def bl_X4_firstThatCannotBe_1 : am_B := (18, [(.iload 5, []), (.iload_n 3, []), (.if_icmp .ge 52, [1005, 2])], none)
noncomputable def bl_X4_firstThatCannotBe_2 : am_B := (24, [(.aload_n 1, []), (.iload_n 2, []), (.iload 5, []), (.invokevirtual 45, [88, 2, 6, 1]), (.istore 6, []), (.aload_n 0, []), (.getfield 9, [4, 0, 2]), (.iload 4, []), (.iload 6, []), (.aload_n 0, []), (.getfield 15, [4, 1, 2]), (.getfield 49, [1, 0, 0]), (.iload 5, []), (.iadd, []), (.invokevirtual 52, [41, 3, 2, 1]), (.ifCond .ge 6, [4, 3])], none)
noncomputable def bl_X4_firstThatCannotBe_3 : am_B := (57, [(.iload 5, []), (.ireturn, [0])], none)
noncomputable def bl_X4_firstThatCannotBe_4 : am_B := (60, [(.iload 4, []), (.iload 6, []), (.iadd, []), (.istore 4, []), (.iinc 5 1, []), (.goto (-52), [1001])], none)
noncomputable def bl_X4_firstThatCannotBe_5 : am_B := (73, [(.iload_n 3, []), (.ireturn, [0])], none)
noncomputable def bk_X4_firstThatCannotBe : List am_B := [bl_X4_firstThatCannotBe_0, bl_X4_firstThatCannotBe_1, bl_X4_firstThatCannotBe_2, bl_X4_firstThatCannotBe_3, bl_X4_firstThatCannotBe_4, bl_X4_firstThatCannotBe_5]
noncomputable def ck_X4_firstThatCannotBe : List (List (Nat × List Nat)) := [[(1, []), (1, []), (3, [687, 400, 401, 81]), (1, []), (1, []), (3, [238]), (3, [200]), (2, []), (1, []), (2, [])],
  [(2, []), (1, []), (3, [])],
  [(1, []), (1, []), (2, []), (3, [688, 408, 409, 81]), (2, []), (1, []), (3, [237]), (2, []), (2, []), (1, []), (3, [238]), (3, [195]), (2, []), (1, []), (3, [689, 623, 624, 85]), (3, [])],
  [(2, []), (1, [])],
  [(2, []), (2, []), (1, []), (2, []), (3, []), (3, [])],
  [(1, []), (1, [])]]
theorem ok_X4_firstThatCannotBe : am_ck 51 bk_X4_firstThatCannotBe ck_X4_firstThatCannotBe = true := am_ckD (by decide +kernel)
theorem ml_X4_firstThatCannotBe : am_ml 51 = 7 := by decide +kernel
theorem pn_X4_firstThatCannotBe : plainName (am_y 51).cls = true := by decide +kernel
/-- PaceBorder$Plan.borderBehind(LPaceBorder$Shelf;II)I: number 52, loop heads [1] -/
noncomputable def bl_X4_borderBehind_0 : am_B := (0, [(.aload_n 0, []), (.getfield 15, [4, 1, 2]), (.getfield 39, [1, 1, 0]), (.istore 4, []), (.iconst 0, []), (.istore 5, [])], some 1001)
noncomputable def bl_X4_borderBehind_1 : am_B := (12, [(.iload 5, []), (.iload_n 3, []), (.if_icmp .ge 21, [1003, 2])], none)
noncomputable def bl_X4_borderBehind_2 : am_B := (18, [(.iload 4, []), (.aload_n 1, []), (.iload_n 2, []), (.iload 5, []), (.invokevirtual 45, [88, 2, 6, 1]), (.iadd, []), (.istore 4, []), (.iinc 5 1, []), (.goto (-21), [1001])], none)
noncomputable def bl_X4_borderBehind_3 : am_B := (36, [(.iload 4, []), (.ireturn, [0])], none)
noncomputable def bk_X4_borderBehind : List am_B := [bl_X4_borderBehind_0, bl_X4_borderBehind_1, bl_X4_borderBehind_2, bl_X4_borderBehind_3]
noncomputable def ck_X4_borderBehind : List (List (Nat × List Nat)) := [[(1, []), (3, [238]), (3, [200]), (2, []), (1, []), (2, [])],
  [(2, []), (1, []), (3, [])],
  [(2, []), (1, []), (1, []), (2, []), (3, [688, 408, 409, 81]), (1, []), (2, []), (3, []), (3, [])],
  [(2, []), (1, [])]]
theorem ok_X4_borderBehind : am_ck 52 bk_X4_borderBehind ck_X4_borderBehind = true := am_ckD (by decide +kernel)
theorem ml_X4_borderBehind : am_ml 52 = 6 := by decide +kernel
theorem pn_X4_borderBehind : plainName (am_y 52).cls = true := by decide +kernel
/-- PaceBorder$Plan.rudenessOf(LPaceBorder$Shelf;I)I: number 53, loop heads [1] -/
noncomputable def bl_X4_rudenessOf_0 : am_B := (0, [(.iconst 0, []), (.istore_n 3, []), (.aload_n 0, []), (.getfield 15, [4, 1, 2]), (.getfield 39, [1, 1, 0]), (.istore 4, []), (.iconst 0, []), (.istore 5, [])], some 1001)
noncomputable def bl_X4_rudenessOf_1 : am_B := (14, [(.iload 5, []), (.aload_n 1, []), (.iload_n 2, []), (.invokevirtual 33, [83, 1, 6, 1]), (.if_icmp .ge 49, [1003, 2])], none)
noncomputable def bl_X4_rudenessOf_2 : am_B := (24, [(.aload_n 1, []), (.iload_n 2, []), (.iload 5, []), (.invokevirtual 45, [88, 2, 6, 1]), (.istore 6, []), (.iload_n 3, []), (.aload_n 0, []), (.getfield 9, [4, 0, 2]), (.iload 4, []), (.iload 6, []), (.aload_n 0, []), (.getfield 15, [4, 1, 2]), (.getfield 49, [1, 0, 0]), (.iload 5, []), (.iadd, []), (.invokevirtual 52, [41, 3, 2, 1]), (.iadd, []), (.istore_n 3, []), (.iload 4, []), (.iload 6, []), (.iadd, []), (.istore 4, []), (.iinc 5 1, []), (.goto (-53), [1001])], none)
noncomputable def bl_X4_rudenessOf_3 : am_B := (70, [(.iload_n 3, []), (.ireturn, [0])], none)
noncomputable def bk_X4_rudenessOf : List am_B := [bl_X4_rudenessOf_0, bl_X4_rudenessOf_1, bl_X4_rudenessOf_2, bl_X4_rudenessOf_3]
noncomputable def ck_X4_rudenessOf : List (List (Nat × List Nat)) := [[(1, []), (1, []), (1, []), (3, [238]), (3, [200]), (2, []), (1, []), (2, [])],
  [(2, []), (1, []), (1, []), (3, [687, 400, 401, 81]), (3, [])],
  [(1, []), (1, []), (2, []), (3, [688, 408, 409, 81]), (2, []), (1, []), (1, []), (3, [237]), (2, []), (2, []), (1, []), (3, [238]), (3, [195]), (2, []), (1, []), (3, [689, 623, 624, 85]), (1, []), (1, []), (2, []), (2, []), (1, []), (2, []), (3, []), (3, [])],
  [(1, []), (1, [])]]
theorem ok_X4_rudenessOf : am_ck 53 bk_X4_rudenessOf ck_X4_rudenessOf = true := am_ckD (by decide +kernel)
theorem ml_X4_rudenessOf : am_ml 53 = 7 := by decide +kernel
theorem pn_X4_rudenessOf : plainName (am_y 53).cls = true := by decide +kernel
/-- PaceBorder$Plan.tollsOf(LPaceBorder$Shelf;I)I: number 54, loop heads [1] -/
noncomputable def bl_X4_tollsOf_0 : am_B := (0, [(.iconst 0, []), (.istore_n 3, []), (.aload_n 0, []), (.getfield 15, [4, 1, 2]), (.getfield 39, [1, 1, 0]), (.istore 4, []), (.iconst 0, []), (.istore 5, [])], some 1001)
noncomputable def bl_X4_tollsOf_1 : am_B := (14, [(.iload 5, []), (.aload_n 1, []), (.iload_n 2, []), (.invokevirtual 33, [83, 1, 6, 1]), (.if_icmp .ge 40, [1003, 2])], none)
noncomputable def bl_X4_tollsOf_2 : am_B := (24, [(.iload 4, []), (.aload_n 1, []), (.iload_n 2, []), (.iload 5, []), (.invokevirtual 45, [88, 2, 6, 1]), (.iadd, []), (.istore 4, []), (.iload_n 3, []), (.aload_n 0, []), (.iload 4, []), (.aload_n 0, []), (.getfield 15, [4, 1, 2]), (.getfield 49, [1, 0, 0]), (.iload 5, []), (.iadd, []), (.invokevirtual 58, [58, 2, 4, 1]), (.iadd, []), (.istore_n 3, []), (.iinc 5 1, []), (.goto (-44), [1001])], none)
noncomputable def bl_X4_tollsOf_3 : am_B := (61, [(.iload_n 3, []), (.ireturn, [0])], none)
noncomputable def bk_X4_tollsOf : List am_B := [bl_X4_tollsOf_0, bl_X4_tollsOf_1, bl_X4_tollsOf_2, bl_X4_tollsOf_3]
noncomputable def ck_X4_tollsOf : List (List (Nat × List Nat)) := [[(1, []), (1, []), (1, []), (3, [238]), (3, [200]), (2, []), (1, []), (2, [])],
  [(2, []), (1, []), (1, []), (3, [687, 400, 401, 81]), (3, [])],
  [(2, []), (1, []), (1, []), (2, []), (3, [688, 408, 409, 81]), (1, []), (2, []), (1, []), (1, []), (2, []), (1, []), (3, [238]), (3, [195]), (2, []), (1, []), (3, [719, 721, 11, 87]), (1, []), (1, []), (3, []), (3, [])],
  [(1, []), (1, [])]]
theorem ok_X4_tollsOf : am_ck 54 bk_X4_tollsOf ck_X4_tollsOf = true := am_ckD (by decide +kernel)
theorem ml_X4_tollsOf : am_ml 54 = 6 := by decide +kernel
theorem pn_X4_tollsOf : plainName (am_y 54).cls = true := by decide +kernel
/-- PaceBorder$Plan.tollNothing()V: number 55, loop heads [] -/
noncomputable def bl_X4_tollNothing_0 : am_B := (0, [(.aload_n 0, []), (.getfield 19, [4, 2, 2]), (.iconst 0, []), (.invokestatic 61, [277, 2, 0, 0]), (.return_, [])], none)
noncomputable def bk_X4_tollNothing : List am_B := [bl_X4_tollNothing_0]
noncomputable def ck_X4_tollNothing : List (List (Nat × List Nat)) := [[(1, []), (3, [239]), (1, []), (3, [748, 112, 83]), (1, [])]]
theorem ok_X4_tollNothing : am_ck 55 bk_X4_tollNothing ck_X4_tollNothing = true := am_ckD (by decide +kernel)
theorem ml_X4_tollNothing : am_ml 55 = 1 := by decide +kernel
theorem pn_X4_tollNothing : plainName (am_y 55).cls = true := by decide +kernel
/-- PaceBorder$Plan.tollOfStrip(I)V: number 56, loop heads [1] -/
noncomputable def bl_X4_tollOfStrip_0 : am_B := (0, [(.iconst 0, []), (.istore_n 2, [])], some 1001)
noncomputable def bl_X4_tollOfStrip_1 : am_B := (2, [(.iload_n 2, []), (.bipush 13, []), (.if_icmp .ge 28, [1003, 2])], none)
noncomputable def bl_X4_tollOfStrip_2 : am_B := (8, [(.aload_n 0, []), (.getfield 19, [4, 2, 2]), (.iload_n 2, []), (.aload_n 0, []), (.getfield 15, [4, 1, 2]), (.aload_n 0, []), (.getfield 9, [4, 0, 2]), (.iload_n 1, []), (.iload_n 2, []), (.invokevirtual 67, [24, 3, 1, 1]), (.iastore, []), (.iinc 2 1, []), (.goto (-28), [1001])], none)
noncomputable def bl_X4_tollOfStrip_3 : am_B := (33, [(.return_, [])], none)
noncomputable def bk_X4_tollOfStrip : List am_B := [bl_X4_tollOfStrip_0, bl_X4_tollOfStrip_1, bl_X4_tollOfStrip_2, bl_X4_tollOfStrip_3]
noncomputable def ck_X4_tollOfStrip : List (List (Nat × List Nat)) := [[(1, []), (1, [])],
  [(1, []), (2, []), (3, [])],
  [(1, []), (3, [239]), (1, []), (1, []), (3, [238]), (1, []), (3, [237]), (1, []), (1, []), (3, [714, 578, 579, 86]), (1, []), (3, []), (3, [])],
  [(1, [])]]
theorem ok_X4_tollOfStrip : am_ck 56 bk_X4_tollOfStrip ck_X4_tollOfStrip = true := am_ckD (by decide +kernel)
theorem ml_X4_tollOfStrip : am_ml 56 = 3 := by decide +kernel
theorem pn_X4_tollOfStrip : plainName (am_y 56).cls = true := by decide +kernel
/-- PaceBorder$Plan.tollLostBy(I)V: number 57, loop heads [1] -/
noncomputable def bl_X4_tollLostBy_0 : am_B := (0, [(.iconst 0, []), (.istore_n 2, [])], some 1001)
noncomputable def bl_X4_tollLostBy_1 : am_B := (2, [(.iload_n 2, []), (.bipush 13, []), (.if_icmp .ge 29, [1003, 2])], none)
noncomputable def bl_X4_tollLostBy_2 : am_B := (8, [(.aload_n 0, []), (.getfield 19, [4, 2, 2]), (.iload_n 2, []), (.aload_n 0, []), (.getfield 15, [4, 1, 2]), (.aload_n 0, []), (.getfield 9, [4, 0, 2]), (.iload_n 1, []), (.iload_n 2, []), (.invokevirtual 71, [25, 3, 1, 1]), (.ineg, []), (.iastore, []), (.iinc 2 1, []), (.goto (-29), [1001])], none)
noncomputable def bl_X4_tollLostBy_3 : am_B := (34, [(.return_, [])], none)
noncomputable def bk_X4_tollLostBy : List am_B := [bl_X4_tollLostBy_0, bl_X4_tollLostBy_1, bl_X4_tollLostBy_2, bl_X4_tollLostBy_3]
noncomputable def ck_X4_tollLostBy : List (List (Nat × List Nat)) := [[(1, []), (1, [])],
  [(1, []), (2, []), (3, [])],
  [(1, []), (3, [239]), (1, []), (1, []), (3, [238]), (1, []), (3, [237]), (1, []), (1, []), (3, [834, 835, 836, 86]), (1, []), (1, []), (3, []), (3, [])],
  [(1, [])]]
theorem ok_X4_tollLostBy : am_ck 57 bk_X4_tollLostBy ck_X4_tollLostBy = true := am_ckD (by decide +kernel)
theorem ml_X4_tollLostBy : am_ml 57 = 3 := by decide +kernel
theorem pn_X4_tollLostBy : plainName (am_y 57).cls = true := by decide +kernel
/-- PaceBorder$Plan.tollAt(II)I: number 58, loop heads [] -/
noncomputable def bl_X4_tollAt_0 : am_B := (0, [(.iload_n 1, []), (.ifCond .lt 16, [3, 1])], none)
noncomputable def bl_X4_tollAt_1 : am_B := (4, [(.iload_n 1, []), (.bipush 13, []), (.if_icmp .ge 10, [3, 2])], none)
noncomputable def bl_X4_tollAt_2 : am_B := (10, [(.iload_n 2, []), (.invokestatic 74, [12, 1, 0, 1]), (.ifCond .ne 5, [4, 3])], none)
noncomputable def bl_X4_tollAt_3 : am_B := (17, [(.iconst 0, []), (.ireturn, [0])], none)
noncomputable def bl_X4_tollAt_4 : am_B := (19, [(.aload_n 0, []), (.getfield 19, [4, 2, 2]), (.iload_n 1, []), (.iaload, []), (.ireturn, [0])], none)
noncomputable def bk_X4_tollAt : List am_B := [bl_X4_tollAt_0, bl_X4_tollAt_1, bl_X4_tollAt_2, bl_X4_tollAt_3, bl_X4_tollAt_4]
noncomputable def ck_X4_tollAt : List (List (Nat × List Nat)) := [[(1, []), (3, [])],
  [(1, []), (2, []), (3, [])],
  [(1, []), (3, [723, 630, 86]), (3, [])],
  [(1, []), (1, [])],
  [(1, []), (3, [239]), (1, []), (1, []), (1, [])]]
theorem ok_X4_tollAt : am_ck 58 bk_X4_tollAt ck_X4_tollAt = true := am_ckD (by decide +kernel)
theorem ml_X4_tollAt : am_ml 58 = 3 := by decide +kernel
theorem pn_X4_tollAt : plainName (am_y 58).cls = true := by decide +kernel
/-- PaceBorder$Plan.solve(IIZ)V: number 59, loop heads [1, 8, 10] -/
noncomputable def bl_X4_solve_0 : am_B := (0, [(.aload_n 0, []), (.iload_n 3, []), (.putfield 78, [4, 6, 3, 0]), (.iconst 0, []), (.istore 4, [])], some 1001)
noncomputable def bl_X4_solve_1 : am_B := (8, [(.iload 4, []), (.aload_n 0, []), (.getfield 9, [4, 0, 2]), (.getfield 82, [2, 0, 0]), (.if_icmp .gt 33, [1007, 2])], none)
noncomputable def bl_X4_solve_2 : am_B := (20, [(.aload_n 0, []), (.iload_n 1, []), (.iload 4, []), (.iload_n 2, []), (.iconst (-1), []), (.if_icmp .eq 9, [4, 3])], none)
noncomputable def bl_X4_solve_3 : am_B := (29, [(.iload_n 2, []), (.iload 4, []), (.if_icmp .ne 7, [5, 4])], none)
noncomputable def bl_X4_solve_4 : am_B := (35, [(.iconst 0, []), (.goto 5, [6])], none)
noncomputable def bl_X4_solve_5 : am_B := (39, [(.ldc 85, [1000000])], some 6)
noncomputable def bl_X4_solve_6 : am_B := (41, [(.invokevirtual 86, [63, 3, 4, 0]), (.iinc 4 1, []), (.goto (-39), [1001])], none)
noncomputable def bl_X4_solve_7 : am_B := (50, [(.iload_n 1, []), (.iconst 1, []), (.isub, []), (.istore 4, [])], some 1008)
noncomputable def bl_X4_solve_8 : am_B := (55, [(.iload 4, []), (.ifCond .lt 46, [1013, 9])], none)
noncomputable def bl_X4_solve_9 : am_B := (60, [(.iconst 0, []), (.istore 5, [])], some 1010)
noncomputable def bl_X4_solve_10 : am_B := (63, [(.iload 5, []), (.aload_n 0, []), (.getfield 9, [4, 0, 2]), (.getfield 82, [2, 0, 0]), (.if_icmp .gt 25, [1012, 11])], none)
noncomputable def bl_X4_solve_11 : am_B := (75, [(.aload_n 0, []), (.iload 4, []), (.iload 5, []), (.aload_n 0, []), (.iload 4, []), (.iload 5, []), (.invokevirtual 90, [60, 2, 4, 1]), (.invokevirtual 86, [63, 3, 4, 0]), (.iinc 5 1, []), (.goto (-31), [1010])], none)
noncomputable def bl_X4_solve_12 : am_B := (97, [(.iinc 4 (-1), []), (.goto (-45), [1008])], none)
noncomputable def bl_X4_solve_13 : am_B := (103, [(.return_, [])], none)
noncomputable def bk_X4_solve : List am_B := [bl_X4_solve_0, bl_X4_solve_1, bl_X4_solve_2, bl_X4_solve_3, bl_X4_solve_4, bl_X4_solve_5, bl_X4_solve_6, bl_X4_solve_7, bl_X4_solve_8, bl_X4_solve_9, bl_X4_solve_10, bl_X4_solve_11, bl_X4_solve_12, bl_X4_solve_13]
noncomputable def ck_X4_solve : List (List (Nat × List Nat)) := [[(1, []), (1, []), (3, [243]), (1, []), (2, [])],
  [(2, []), (1, []), (3, [237]), (3, [149]), (3, [])],
  [(1, []), (1, []), (2, []), (1, []), (1, []), (3, [])],
  [(1, []), (2, []), (3, [])],
  [(1, []), (3, [])],
  [(2, [753])],
  [(3, [754, 756, 14, 87]), (3, []), (3, [])],
  [(1, []), (1, []), (1, []), (2, [])],
  [(2, []), (3, [])],
  [(1, []), (2, [])],
  [(2, []), (1, []), (3, [237]), (3, [149]), (3, [])],
  [(1, []), (2, []), (2, []), (1, []), (2, []), (2, []), (3, [758, 760, 15, 87]), (3, [754, 756, 14, 87]), (3, []), (3, [])],
  [(3, []), (3, [])],
  [(1, [])]]
theorem ok_X4_solve : am_ck 59 bk_X4_solve ck_X4_solve = true := am_ckD (by decide +kernel)
theorem ml_X4_solve : am_ml 59 = 6 := by decide +kernel
theorem pn_X4_solve : plainName (am_y 59).cls = true := by decide +kernel
/-- PaceBorder$Plan.leastCost(II)I: number 60, loop heads [1] -/
noncomputable def bl_X4_leastCost_0 : am_B := (0, [(.ldc 85, [1000000]), (.istore_n 3, []), (.iconst (-1), []), (.istore 4, [])], some 1001)
noncomputable def bl_X4_leastCost_1 : am_B := (6, [(.iload 4, []), (.iconst 1, []), (.if_icmp .gt 22, [1003, 2])], none)
noncomputable def bl_X4_leastCost_2 : am_B := (12, [(.iload_n 3, []), (.aload_n 0, []), (.iload_n 1, []), (.iload_n 2, []), (.iload 4, []), (.invokevirtual 93, [61, 3, 4, 1]), (.invokestatic 96, [1, 0]), (.istore_n 3, []), (.iinc 4 1, []), (.goto (-22), [1001])], none)
noncomputable def bl_X4_leastCost_3 : am_B := (31, [(.iload_n 3, []), (.ireturn, [0])], none)
noncomputable def bk_X4_leastCost : List am_B := [bl_X4_leastCost_0, bl_X4_leastCost_1, bl_X4_leastCost_2, bl_X4_leastCost_3]
noncomputable def ck_X4_leastCost : List (List (Nat × List Nat)) := [[(2, [753]), (1, []), (1, []), (2, [])],
  [(2, []), (1, []), (3, [])],
  [(1, []), (1, []), (1, []), (1, []), (2, []), (3, [762, 764, 16, 87]), (3, [770, 771, 82, 772]), (1, []), (3, []), (3, [])],
  [(1, []), (1, [])]]
theorem ok_X4_leastCost : am_ck 60 bk_X4_leastCost ck_X4_leastCost = true := am_ckD (by decide +kernel)
theorem ml_X4_leastCost : am_ml 60 = 5 := by decide +kernel
theorem pn_X4_leastCost : plainName (am_y 60).cls = true := by decide +kernel
/-- PaceBorder$Plan.costBy(III)I: number 61, loop heads [] -/
noncomputable def bl_X4_costBy_0 : am_B := (0, [(.aload_n 0, []), (.getfield 15, [4, 1, 2]), (.getfield 49, [1, 0, 0]), (.iload_n 1, []), (.iadd, []), (.istore 4, []), (.aload_n 0, []), (.getfield 9, [4, 0, 2]), (.iload_n 2, []), (.iload_n 3, []), (.iload 4, []), (.invokevirtual 52, [41, 3, 2, 1]), (.istore 5, []), (.aload_n 0, []), (.iload_n 1, []), (.iconst 1, []), (.iadd, []), (.iload_n 2, []), (.iload_n 3, []), (.iadd, []), (.invokevirtual 101, [62, 2, 4, 1]), (.istore 6, []), (.iload 5, []), (.ifCond .lt 10, [2, 1])], none)
noncomputable def bl_X4_costBy_1 : am_B := (41, [(.iload 6, []), (.ldc 85, [1000000]), (.if_icmp .lt 6, [3, 2])], none)
noncomputable def bl_X4_costBy_2 : am_B := (48, [(.ldc 85, [1000000]), (.ireturn, [0])], none)
noncomputable def bl_X4_costBy_3 : am_B := (51, [(.iload 6, []), (.aload_n 0, []), (.getfield 78, [4, 6, 3]), (.ifCond .eq 8, [5, 4])], none)
noncomputable def bl_X4_costBy_4 : am_B := (60, [(.iload 5, []), (.goto 4, [6])], none)
noncomputable def bl_X4_costBy_5 : am_B := (65, [(.iconst 0, [])], some 6)
noncomputable def bl_X4_costBy_6 : am_B := (66, [(.iadd, []), (.aload_n 0, []), (.iload_n 2, []), (.iload_n 3, []), (.iadd, []), (.iload 4, []), (.invokevirtual 58, [58, 2, 4, 1]), (.iadd, []), (.ireturn, [0])], none)
noncomputable def bk_X4_costBy : List am_B := [bl_X4_costBy_0, bl_X4_costBy_1, bl_X4_costBy_2, bl_X4_costBy_3, bl_X4_costBy_4, bl_X4_costBy_5, bl_X4_costBy_6]
noncomputable def ck_X4_costBy : List (List (Nat × List Nat)) := [[(1, []), (3, [238]), (3, [195]), (1, []), (1, []), (2, []), (1, []), (3, [237]), (1, []), (1, []), (2, []), (3, [689, 623, 624, 85]), (2, []), (1, []), (1, []), (1, []), (1, []), (1, []), (1, []), (1, []), (3, [766, 767, 768, 87]), (2, []), (2, []), (3, [])],
  [(2, []), (2, [753]), (3, [])],
  [(2, [753]), (1, [])],
  [(2, []), (1, []), (3, [243]), (3, [])],
  [(2, []), (3, [])],
  [(1, [])],
  [(1, []), (1, []), (1, []), (1, []), (1, []), (2, []), (3, [719, 721, 11, 87]), (1, []), (1, [])]]
theorem ok_X4_costBy : am_ck 61 bk_X4_costBy ck_X4_costBy = true := am_ckD (by decide +kernel)
theorem ml_X4_costBy : am_ml 61 = 7 := by decide +kernel
theorem pn_X4_costBy : plainName (am_y 61).cls = true := by decide +kernel
/-- PaceBorder$Plan.costFrom(II)I: number 62, loop heads [] -/
noncomputable def bl_X4_costFrom_0 : am_B := (0, [(.iload_n 1, []), (.ifCond .lt 19, [4, 1])], none)
noncomputable def bl_X4_costFrom_1 : am_B := (4, [(.iload_n 1, []), (.bipush 20, []), (.if_icmp .gt 13, [4, 2])], none)
noncomputable def bl_X4_costFrom_2 : am_B := (10, [(.iload_n 2, []), (.ifCond .lt 9, [4, 3])], none)
noncomputable def bl_X4_costFrom_3 : am_B := (14, [(.iload_n 2, []), (.bipush 13, []), (.if_icmp .lt 6, [5, 4])], none)
noncomputable def bl_X4_costFrom_4 : am_B := (20, [(.ldc 85, [1000000]), (.ireturn, [0])], none)
noncomputable def bl_X4_costFrom_5 : am_B := (23, [(.aload_n 0, []), (.getfield 23, [4, 3, 2]), (.iload_n 1, []), (.bipush 13, []), (.imul, []), (.iload_n 2, []), (.iadd, []), (.iaload, []), (.ireturn, [0])], none)
noncomputable def bk_X4_costFrom : List am_B := [bl_X4_costFrom_0, bl_X4_costFrom_1, bl_X4_costFrom_2, bl_X4_costFrom_3, bl_X4_costFrom_4, bl_X4_costFrom_5]
noncomputable def ck_X4_costFrom : List (List (Nat × List Nat)) := [[(1, []), (3, [])],
  [(1, []), (2, []), (3, [])],
  [(1, []), (3, [])],
  [(1, []), (2, []), (3, [])],
  [(2, [753]), (1, [])],
  [(1, []), (3, [240]), (1, []), (2, []), (1, []), (1, []), (1, []), (1, []), (1, [])]]
theorem ok_X4_costFrom : am_ck 62 bk_X4_costFrom ck_X4_costFrom = true := am_ckD (by decide +kernel)
theorem ml_X4_costFrom : am_ml 62 = 3 := by decide +kernel
theorem pn_X4_costFrom : plainName (am_y 62).cls = true := by decide +kernel
/-- PaceBorder$Plan.setCost(III)V: number 63, loop heads [] -/
noncomputable def bl_X4_setCost_0 : am_B := (0, [(.iload_n 1, []), (.ifCond .lt 31, [5, 1])], none)
noncomputable def bl_X4_setCost_1 : am_B := (4, [(.iload_n 1, []), (.bipush 20, []), (.if_icmp .gt 25, [5, 2])], none)
noncomputable def bl_X4_setCost_2 : am_B := (10, [(.iload_n 2, []), (.ifCond .lt 21, [5, 3])], none)
noncomputable def bl_X4_setCost_3 : am_B := (14, [(.iload_n 2, []), (.bipush 13, []), (.if_icmp .ge 15, [5, 4])], none)
noncomputable def bl_X4_setCost_4 : am_B := (20, [(.aload_n 0, []), (.getfield 23, [4, 3, 2]), (.iload_n 1, []), (.bipush 13, []), (.imul, []), (.iload_n 2, []), (.iadd, []), (.iload_n 3, []), (.iastore, [])], some 5)
noncomputable def bl_X4_setCost_5 : am_B := (32, [(.return_, [])], none)
noncomputable def bk_X4_setCost : List am_B := [bl_X4_setCost_0, bl_X4_setCost_1, bl_X4_setCost_2, bl_X4_setCost_3, bl_X4_setCost_4, bl_X4_setCost_5]
noncomputable def ck_X4_setCost : List (List (Nat × List Nat)) := [[(1, []), (3, [])],
  [(1, []), (2, []), (3, [])],
  [(1, []), (3, [])],
  [(1, []), (2, []), (3, [])],
  [(1, []), (3, [240]), (1, []), (2, []), (1, []), (1, []), (1, []), (1, []), (1, [])],
  [(1, [])]]
theorem ok_X4_setCost : am_ck 63 bk_X4_setCost ck_X4_setCost = true := am_ckD (by decide +kernel)
theorem ml_X4_setCost : am_ml 63 = 4 := by decide +kernel
theorem pn_X4_setCost : plainName (am_y 63).cls = true := by decide +kernel
/-- PaceBorder$Plan.firstMove(II)I: number 64, loop heads [1] -/
noncomputable def bl_X4_firstMove_0 : am_B := (0, [(.aload_n 0, []), (.iload_n 1, []), (.iload_n 2, []), (.invokevirtual 101, [62, 2, 4, 1]), (.istore_n 3, []), (.iconst (-1), []), (.istore 4, [])], some 1001)
noncomputable def bl_X4_firstMove_1 : am_B := (10, [(.iload 4, []), (.iconst 1, []), (.if_icmp .gt 24, [1005, 2])], none)
noncomputable def bl_X4_firstMove_2 : am_B := (16, [(.aload_n 0, []), (.iload_n 1, []), (.iload_n 2, []), (.iload 4, []), (.invokevirtual 93, [61, 3, 4, 1]), (.iload_n 3, []), (.if_icmp .ne 6, [4, 3])], none)
noncomputable def bl_X4_firstMove_3 : am_B := (28, [(.iload 4, []), (.ireturn, [0])], none)
noncomputable def bl_X4_firstMove_4 : am_B := (31, [(.iinc 4 1, []), (.goto (-24), [1001])], none)
noncomputable def bl_X4_firstMove_5 : am_B := (37, [(.iconst 0, []), (.ireturn, [0])], none)
noncomputable def bk_X4_firstMove : List am_B := [bl_X4_firstMove_0, bl_X4_firstMove_1, bl_X4_firstMove_2, bl_X4_firstMove_3, bl_X4_firstMove_4, bl_X4_firstMove_5]
noncomputable def ck_X4_firstMove : List (List (Nat × List Nat)) := [[(1, []), (1, []), (1, []), (3, [766, 767, 768, 87]), (1, []), (1, []), (2, [])],
  [(2, []), (1, []), (3, [])],
  [(1, []), (1, []), (1, []), (2, []), (3, [762, 764, 16, 87]), (1, []), (3, [])],
  [(2, []), (1, [])],
  [(3, []), (3, [])],
  [(1, []), (1, [])]]
theorem ok_X4_firstMove : am_ck 64 bk_X4_firstMove ck_X4_firstMove = true := am_ckD (by decide +kernel)
theorem ml_X4_firstMove : am_ml 64 = 5 := by decide +kernel
theorem pn_X4_firstMove : plainName (am_y 64).cls = true := by decide +kernel
/-- PaceBorder$Plan.fewestDaysTo(I)I: number 65, loop heads [1] -/
noncomputable def bl_X4_fewestDaysTo_0 : am_B := (0, [(.iconst 1, []), (.aload_n 0, []), (.getfield 15, [4, 1, 2]), (.getfield 39, [1, 1, 0]), (.ishl, []), (.istore_n 2, []), (.iconst 0, []), (.istore_n 3, [])], some 1001)
noncomputable def bl_X4_fewestDaysTo_1 : am_B := (12, [(.iload_n 3, []), (.bipush 20, []), (.if_icmp .gt 34, [1005, 2])], none)
noncomputable def bl_X4_fewestDaysTo_2 : am_B := (18, [(.iload_n 2, []), (.iload_n 1, []), (.ishr, []), (.iconst 1, []), (.iand, []), (.ifCond .eq 5, [4, 3])], none)
noncomputable def bl_X4_fewestDaysTo_3 : am_B := (26, [(.iload_n 3, []), (.ireturn, [0])], none)
noncomputable def bl_X4_fewestDaysTo_4 : am_B := (28, [(.aload_n 0, []), (.iload_n 2, []), (.aload_n 0, []), (.getfield 15, [4, 1, 2]), (.getfield 49, [1, 0, 0]), (.iload_n 3, []), (.iadd, []), (.invokevirtual 104, [67, 2, 4, 1]), (.istore_n 2, []), (.iinc 3 1, []), (.goto (-34), [1001])], none)
noncomputable def bl_X4_fewestDaysTo_5 : am_B := (49, [(.iconst (-1), []), (.ireturn, [0])], none)
noncomputable def bk_X4_fewestDaysTo : List am_B := [bl_X4_fewestDaysTo_0, bl_X4_fewestDaysTo_1, bl_X4_fewestDaysTo_2, bl_X4_fewestDaysTo_3, bl_X4_fewestDaysTo_4, bl_X4_fewestDaysTo_5]
noncomputable def ck_X4_fewestDaysTo : List (List (Nat × List Nat)) := [[(1, []), (1, []), (3, [238]), (3, [200]), (1, []), (1, []), (1, []), (1, [])],
  [(1, []), (2, []), (3, [])],
  [(1, []), (1, []), (1, []), (1, []), (1, []), (3, [])],
  [(1, []), (1, [])],
  [(1, []), (1, []), (1, []), (3, [238]), (3, [195]), (1, []), (1, []), (3, [736, 738, 12, 87]), (1, []), (3, []), (3, [])],
  [(1, []), (1, [])]]
theorem ok_X4_fewestDaysTo : am_ck 65 bk_X4_fewestDaysTo ck_X4_fewestDaysTo = true := am_ckD (by decide +kernel)
theorem ml_X4_fewestDaysTo : am_ml 65 = 4 := by decide +kernel
theorem pn_X4_fewestDaysTo : plainName (am_y 65).cls = true := by decide +kernel
/-- PaceBorder$Plan.reachIn(I)I: number 66, loop heads [1] -/
noncomputable def bl_X4_reachIn_0 : am_B := (0, [(.iconst 1, []), (.aload_n 0, []), (.getfield 15, [4, 1, 2]), (.getfield 39, [1, 1, 0]), (.ishl, []), (.istore_n 2, []), (.iconst 0, []), (.istore_n 3, [])], some 1001)
noncomputable def bl_X4_reachIn_1 : am_B := (12, [(.iload_n 3, []), (.iload_n 1, []), (.if_icmp .ge 24, [1003, 2])], none)
noncomputable def bl_X4_reachIn_2 : am_B := (17, [(.aload_n 0, []), (.iload_n 2, []), (.aload_n 0, []), (.getfield 15, [4, 1, 2]), (.getfield 49, [1, 0, 0]), (.iload_n 3, []), (.iadd, []), (.invokevirtual 104, [67, 2, 4, 1]), (.istore_n 2, []), (.iinc 3 1, []), (.goto (-23), [1001])], none)
noncomputable def bl_X4_reachIn_3 : am_B := (38, [(.iload_n 2, []), (.ireturn, [0])], none)
noncomputable def bk_X4_reachIn : List am_B := [bl_X4_reachIn_0, bl_X4_reachIn_1, bl_X4_reachIn_2, bl_X4_reachIn_3]
noncomputable def ck_X4_reachIn : List (List (Nat × List Nat)) := [[(1, []), (1, []), (3, [238]), (3, [200]), (1, []), (1, []), (1, []), (1, [])],
  [(1, []), (1, []), (3, [])],
  [(1, []), (1, []), (1, []), (3, [238]), (3, [195]), (1, []), (1, []), (3, [736, 738, 12, 87]), (1, []), (3, []), (3, [])],
  [(1, []), (1, [])]]
theorem ok_X4_reachIn : am_ck 66 bk_X4_reachIn ck_X4_reachIn = true := am_ckD (by decide +kernel)
theorem ml_X4_reachIn : am_ml 66 = 4 := by decide +kernel
theorem pn_X4_reachIn : plainName (am_y 66).cls = true := by decide +kernel
/-- PaceBorder$Plan.spread(II)I: number 67, loop heads [1] -/
noncomputable def bl_X4_spread_0 : am_B := (0, [(.iconst 0, []), (.istore_n 3, []), (.iconst 0, []), (.istore 4, [])], some 1001)
noncomputable def bl_X4_spread_1 : am_B := (5, [(.iload 4, []), (.aload_n 0, []), (.getfield 9, [4, 0, 2]), (.getfield 82, [2, 0, 0]), (.if_icmp .gt 28, [1005, 2])], none)
noncomputable def bl_X4_spread_2 : am_B := (17, [(.iload_n 1, []), (.iload 4, []), (.ishr, []), (.iconst 1, []), (.iand, []), (.ifCond .eq 13, [4, 3])], none)
noncomputable def bl_X4_spread_3 : am_B := (26, [(.iload_n 3, []), (.aload_n 0, []), (.iload 4, []), (.iload_n 2, []), (.invokevirtual 107, [68, 2, 4, 1]), (.ior, []), (.istore_n 3, [])], some 4)
noncomputable def bl_X4_spread_4 : am_B := (36, [(.iinc 4 1, []), (.goto (-34), [1001])], none)
noncomputable def bl_X4_spread_5 : am_B := (42, [(.iload_n 3, []), (.ireturn, [0])], none)
noncomputable def bk_X4_spread : List am_B := [bl_X4_spread_0, bl_X4_spread_1, bl_X4_spread_2, bl_X4_spread_3, bl_X4_spread_4, bl_X4_spread_5]
noncomputable def ck_X4_spread : List (List (Nat × List Nat)) := [[(1, []), (1, []), (1, []), (2, [])],
  [(2, []), (1, []), (3, [237]), (3, [149]), (3, [])],
  [(1, []), (2, []), (1, []), (1, []), (1, []), (3, [])],
  [(1, []), (1, []), (2, []), (1, []), (3, [740, 742, 13, 87]), (1, []), (1, [])],
  [(3, []), (3, [])],
  [(1, []), (1, [])]]
theorem ok_X4_spread : am_ck 67 bk_X4_spread ck_X4_spread = true := am_ckD (by decide +kernel)
theorem ml_X4_spread : am_ml 67 = 5 := by decide +kernel
theorem pn_X4_spread : plainName (am_y 67).cls = true := by decide +kernel
/-- PaceBorder$Plan.placesBehind(II)I: number 68, loop heads [1] -/
noncomputable def bl_X4_placesBehind_0 : am_B := (0, [(.iconst 0, []), (.istore_n 3, []), (.iconst (-1), []), (.istore 4, [])], some 1001)
noncomputable def bl_X4_placesBehind_1 : am_B := (5, [(.iload 4, []), (.iconst 1, []), (.if_icmp .gt 32, [1005, 2])], none)
noncomputable def bl_X4_placesBehind_2 : am_B := (11, [(.aload_n 0, []), (.getfield 9, [4, 0, 2]), (.iload_n 1, []), (.iload 4, []), (.iload_n 2, []), (.invokevirtual 52, [41, 3, 2, 1]), (.ifCond .lt 12, [4, 3])], none)
noncomputable def bl_X4_placesBehind_3 : am_B := (25, [(.iload_n 3, []), (.iconst 1, []), (.iload_n 1, []), (.iload 4, []), (.iadd, []), (.ishl, []), (.ior, []), (.istore_n 3, [])], some 4)
noncomputable def bl_X4_placesBehind_4 : am_B := (34, [(.iinc 4 1, []), (.goto (-32), [1001])], none)
noncomputable def bl_X4_placesBehind_5 : am_B := (40, [(.iload_n 3, []), (.ireturn, [0])], none)
noncomputable def bk_X4_placesBehind : List am_B := [bl_X4_placesBehind_0, bl_X4_placesBehind_1, bl_X4_placesBehind_2, bl_X4_placesBehind_3, bl_X4_placesBehind_4, bl_X4_placesBehind_5]
noncomputable def ck_X4_placesBehind : List (List (Nat × List Nat)) := [[(1, []), (1, []), (1, []), (2, [])],
  [(2, []), (1, []), (3, [])],
  [(1, []), (3, [237]), (1, []), (2, []), (1, []), (3, [689, 623, 624, 85]), (3, [])],
  [(1, []), (1, []), (1, []), (2, []), (1, []), (1, []), (1, []), (1, [])],
  [(3, []), (3, [])],
  [(1, []), (1, [])]]
theorem ok_X4_placesBehind : am_ck 68 bk_X4_placesBehind ck_X4_placesBehind = true := am_ckD (by decide +kernel)
theorem ml_X4_placesBehind : am_ml 68 = 5 := by decide +kernel
theorem pn_X4_placesBehind : plainName (am_y 68).cls = true := by decide +kernel
/-- PaceBorder$Plan.waysTo(II)J: number 69, loop heads [4, 6] -/
noncomputable def bl_X4_waysTo_0 : am_B := (0, [(.aload_n 0, []), (.getfield 26, [4, 4, 2]), (.lconst 0, []), (.invokestatic 110, [276, 2, 0, 0]), (.iload_n 1, []), (.invokestatic 113, [71, 1, 0, 1]), (.ifCond .eq 16, [2, 1])], none)
noncomputable def bl_X4_waysTo_1 : am_B := (15, [(.aload_n 0, []), (.getfield 15, [4, 1, 2]), (.getfield 39, [1, 1, 0]), (.invokestatic 113, [71, 1, 0, 1]), (.ifCond .ne 5, [3, 2])], none)
noncomputable def bl_X4_waysTo_2 : am_B := (28, [(.lconst 0, []), (.lreturn, [])], none)
noncomputable def bl_X4_waysTo_3 : am_B := (30, [(.aload_n 0, []), (.getfield 26, [4, 4, 2]), (.aload_n 0, []), (.getfield 15, [4, 1, 2]), (.getfield 39, [1, 1, 0]), (.lconst 1, []), (.lastore, []), (.iconst 0, []), (.istore_n 3, [])], some 1004)
noncomputable def bl_X4_waysTo_4 : am_B := (45, [(.iload_n 3, []), (.iload_n 2, []), (.if_icmp .ge 68, [1009, 5])], none)
noncomputable def bl_X4_waysTo_5 : am_B := (50, [(.aload_n 0, []), (.getfield 30, [4, 5, 2]), (.lconst 0, []), (.invokestatic 110, [276, 2, 0, 0]), (.iconst 0, []), (.istore 4, [])], some 1006)
noncomputable def bl_X4_waysTo_6 : am_B := (61, [(.iload 4, []), (.aload_n 0, []), (.getfield 9, [4, 0, 2]), (.getfield 82, [2, 0, 0]), (.if_icmp .gt 24, [1008, 7])], none)
noncomputable def bl_X4_waysTo_7 : am_B := (73, [(.aload_n 0, []), (.iload 4, []), (.aload_n 0, []), (.getfield 15, [4, 1, 2]), (.getfield 49, [1, 0, 0]), (.iload_n 3, []), (.iadd, []), (.invokevirtual 116, [70, 2, 4, 0]), (.iinc 4 1, []), (.goto (-30), [1006])], none)
noncomputable def bl_X4_waysTo_8 : am_B := (94, [(.aload_n 0, []), (.getfield 30, [4, 5, 2]), (.iconst 0, []), (.aload_n 0, []), (.getfield 26, [4, 4, 2]), (.iconst 0, []), (.bipush 13, []), (.invokestatic 120, [1000000]), (.iinc 3 1, []), (.goto (-67), [1004])], none)
noncomputable def bl_X4_waysTo_9 : am_B := (115, [(.aload_n 0, []), (.getfield 26, [4, 4, 2]), (.iload_n 1, []), (.laload, []), (.lreturn, [])], none)
noncomputable def bk_X4_waysTo : List am_B := [bl_X4_waysTo_0, bl_X4_waysTo_1, bl_X4_waysTo_2, bl_X4_waysTo_3, bl_X4_waysTo_4, bl_X4_waysTo_5, bl_X4_waysTo_6, bl_X4_waysTo_7, bl_X4_waysTo_8, bl_X4_waysTo_9]
noncomputable def ck_X4_waysTo : List (List (Nat × List Nat)) := [[(1, []), (3, [241]), (1, []), (3, [798, 799, 83]), (1, []), (3, [801, 802, 87]), (3, [])],
  [(1, []), (3, [238]), (3, [200]), (3, [801, 802, 87]), (3, [])],
  [(1, []), (1, [])],
  [(1, []), (3, [241]), (1, []), (3, [238]), (3, [200]), (1, []), (1, []), (1, []), (1, [])],
  [(1, []), (1, []), (3, [])],
  [(1, []), (3, [242]), (1, []), (3, [798, 799, 83]), (1, []), (2, [])],
  [(2, []), (1, []), (3, [237]), (3, [149]), (3, [])],
  [(1, []), (2, []), (1, []), (3, [238]), (3, [195]), (1, []), (1, []), (3, [804, 806, 18, 87]), (3, []), (3, [])],
  [(1, []), (3, [242]), (1, []), (1, []), (3, [241]), (1, []), (2, []), (3, [808, 447, 446, 92]), (3, []), (3, [])],
  [(1, []), (3, [241]), (1, []), (1, []), (1, [])]]
theorem ok_X4_waysTo : am_ck 69 bk_X4_waysTo ck_X4_waysTo = true := am_ckD (by decide +kernel)
theorem ml_X4_waysTo : am_ml 69 = 5 := by decide +kernel
theorem pn_X4_waysTo : plainName (am_y 69).cls = true := by decide +kernel
/-- PaceBorder$Plan.passOn(II)V: number 70, loop heads [1] -/
noncomputable def bl_X4_passOn_0 : am_B := (0, [(.aload_n 0, []), (.iload_n 1, []), (.iload_n 2, []), (.invokevirtual 107, [68, 2, 4, 1]), (.istore_n 3, []), (.iconst 0, []), (.istore 4, [])], some 1001)
noncomputable def bl_X4_passOn_1 : am_B := (10, [(.iload 4, []), (.aload_n 0, []), (.getfield 9, [4, 0, 2]), (.getfield 82, [2, 0, 0]), (.if_icmp .gt 49, [1007, 2])], none)
noncomputable def bl_X4_passOn_2 : am_B := (22, [(.iload_n 1, []), (.invokestatic 113, [71, 1, 0, 1]), (.ifCond .eq 36, [6, 3])], none)
noncomputable def bl_X4_passOn_3 : am_B := (29, [(.iload 4, []), (.invokestatic 113, [71, 1, 0, 1]), (.ifCond .eq 28, [6, 4])], none)
noncomputable def bl_X4_passOn_4 : am_B := (37, [(.iload_n 3, []), (.iload 4, []), (.ishr, []), (.iconst 1, []), (.iand, []), (.ifCond .eq 19, [6, 5])], none)
noncomputable def bl_X4_passOn_5 : am_B := (46, [(.aload_n 0, []), (.getfield 30, [4, 5, 2]), (.iload 4, []), (.dup2, []), (.laload, []), (.aload_n 0, []), (.getfield 26, [4, 4, 2]), (.iload_n 1, []), (.laload, []), (.ladd, []), (.lastore, [])], some 6)
noncomputable def bl_X4_passOn_6 : am_B := (62, [(.iinc 4 1, []), (.goto (-55), [1001])], none)
noncomputable def bl_X4_passOn_7 : am_B := (68, [(.return_, [])], none)
noncomputable def bk_X4_passOn : List am_B := [bl_X4_passOn_0, bl_X4_passOn_1, bl_X4_passOn_2, bl_X4_passOn_3, bl_X4_passOn_4, bl_X4_passOn_5, bl_X4_passOn_6, bl_X4_passOn_7]
noncomputable def ck_X4_passOn : List (List (Nat × List Nat)) := [[(1, []), (1, []), (1, []), (3, [740, 742, 13, 87]), (1, []), (1, []), (2, [])],
  [(2, []), (1, []), (3, [237]), (3, [149]), (3, [])],
  [(1, []), (3, [801, 802, 87]), (3, [])],
  [(2, []), (3, [801, 802, 87]), (3, [])],
  [(1, []), (2, []), (1, []), (1, []), (1, []), (3, [])],
  [(1, []), (3, [242]), (2, []), (1, []), (1, []), (1, []), (3, [241]), (1, []), (1, []), (1, []), (1, [])],
  [(3, []), (3, [])],
  [(1, [])]]
theorem ok_X4_passOn : am_ck 70 bk_X4_passOn ck_X4_passOn = true := am_ckD (by decide +kernel)
theorem ml_X4_passOn : am_ml 70 = 5 := by decide +kernel
theorem pn_X4_passOn : plainName (am_y 70).cls = true := by decide +kernel
/-- PaceBorder$Plan.isSlot(I)Z: number 71, loop heads [] -/
noncomputable def bl_X4_isSlot_0 : am_B := (0, [(.iload_n 0, []), (.ifCond .lt 13, [3, 1])], none)
noncomputable def bl_X4_isSlot_1 : am_B := (4, [(.iload_n 0, []), (.bipush 13, []), (.if_icmp .ge 7, [3, 2])], none)
noncomputable def bl_X4_isSlot_2 : am_B := (10, [(.iconst 1, []), (.goto 4, [4])], none)
noncomputable def bl_X4_isSlot_3 : am_B := (14, [(.iconst 0, [])], some 4)
noncomputable def bl_X4_isSlot_4 : am_B := (15, [(.ireturn, [1])], none)
noncomputable def bk_X4_isSlot : List am_B := [bl_X4_isSlot_0, bl_X4_isSlot_1, bl_X4_isSlot_2, bl_X4_isSlot_3, bl_X4_isSlot_4]
noncomputable def ck_X4_isSlot : List (List (Nat × List Nat)) := [[(1, []), (3, [])],
  [(1, []), (2, []), (3, [])],
  [(1, []), (3, [])],
  [(1, [])],
  [(1, [])]]
theorem ok_X4_isSlot : am_ck 71 bk_X4_isSlot ck_X4_isSlot = true := am_ckD (by decide +kernel)
theorem ml_X4_isSlot : am_ml 71 = 1 := by decide +kernel
theorem pn_X4_isSlot : plainName (am_y 71).cls = true := by decide +kernel
