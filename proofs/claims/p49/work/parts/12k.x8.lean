section
/-- PaceBorder.<init>()V: number 105, loop heads [1] -/
noncomputable def bl_X8_init_0 : am_B := (0, [(.aload_n 0, []), (.invokespecial 3, [1000000]), (.aload_n 0, []), (.new 9, [6, 5]), (.dup, []), (.bipush 6, []), (.bipush 40, []), (.iconst 0, []), (.invokespecial 11, [80, 3]), (.putfield 14, [8, 0, 2, 1]), (.aload_n 0, []), (.new 9, [6, 5]), (.dup, []), (.iconst 4, []), (.bipush 60, []), (.bipush 32, []), (.invokespecial 11, [80, 3]), (.putfield 18, [8, 1, 2, 1]), (.aload_n 0, []), (.new 21, [5, 7]), (.dup, []), (.aload_n 0, []), (.getfield 18, [8, 1, 2]), (.invokespecial 23, [72, 1]), (.putfield 26, [8, 2, 2, 1]), (.aload_n 0, []), (.new 30, [2, 3]), (.dup, []), (.invokespecial 32, [27, 0]), (.putfield 33, [8, 3, 2, 1]), (.aload_n 0, []), (.new 37, [1, 8]), (.dup, []), (.invokespecial 39, [11, 0]), (.putfield 40, [8, 4, 2, 1]), (.aload_n 0, []), (.iconst 3, []), (.anewarray 37, [12]), (.putfield 44, [8, 5, 2, 1]), (.iconst 0, []), (.istore_n 1, [])], some 1001)
noncomputable def bl_X8_init_1 : am_B := (83, [(.iload_n 1, []), (.iconst 3, []), (.if_icmp .ge 22, [1003, 2])], none)
noncomputable def bl_X8_init_2 : am_B := (88, [(.aload_n 0, []), (.getfield 44, [8, 5, 2]), (.iload_n 1, []), (.new 37, [1, 8]), (.dup, []), (.invokespecial 39, [11, 0]), (.aastore, []), (.iinc 1 1, []), (.goto (-21), [1001])], none)
noncomputable def bl_X8_init_3 : am_B := (107, [(.aload_n 0, []), (.iconst 3, []), (.newarray .int, [10]), (.putfield 48, [8, 6, 2, 1]), (.aload_n 0, []), (.getfield 48, [8, 6, 2]), (.iconst (-1), []), (.invokestatic 52, [277, 2, 0, 0]), (.aload_n 0, []), (.new 58, [4, 7]), (.dup, []), (.aload_n 0, []), (.getfield 33, [8, 3, 2]), (.aload_n 0, []), (.getfield 40, [8, 4, 2]), (.invokespecial 60, [50, 2]), (.putfield 63, [8, 7, 2, 1]), (.aload_n 0, []), (.new 67, [0, 4]), (.dup, []), (.aload_n 0, []), (.getfield 33, [8, 3, 2]), (.aload_n 0, []), (.getfield 40, [8, 4, 2]), (.invokespecial 69, [0, 2]), (.putfield 70, [8, 8, 2, 1]), (.aload_n 0, []), (.new 74, [7, 5]), (.dup, []), (.aload_n 0, []), (.getfield 33, [8, 3, 2]), (.aload_n 0, []), (.getfield 40, [8, 4, 2]), (.invokespecial 76, [95, 2]), (.putfield 77, [8, 9, 2, 1]), (.aload_n 0, []), (.new 81, [3, 4]), (.dup, []), (.aload_n 0, []), (.getfield 33, [8, 3, 2]), (.aload_n 0, []), (.getfield 40, [8, 4, 2]), (.invokespecial 83, [44, 2]), (.putfield 84, [8, 10, 2, 1]), (.aload_n 0, []), (.bipush 6, []), (.newarray .int, [10]), (.putfield 88, [8, 11, 2, 1]), (.aload_n 0, []), (.lconst 1, []), (.putfield 91, [8, 15, 1, 0]), (.return_, [])], none)
noncomputable def bk_X8_init : List am_B := [bl_X8_init_0, bl_X8_init_1, bl_X8_init_2, bl_X8_init_3]
noncomputable def ck_X8_init : List (List (Nat × List Nat)) := [[(1, []), (3, [99, 100, 101]), (1, []), (3, [102, 103, 81]), (1, []), (2, []), (2, []), (1, []), (3, [104, 105, 81]), (3, [322]), (1, []), (3, [102, 103, 81]), (1, []), (1, []), (2, []), (2, []), (3, [104, 105, 81]), (3, [323]), (1, []), (3, [131, 132, 84]), (1, []), (1, []), (3, [323]), (3, [133, 134, 84]), (3, [324]), (1, []), (3, [186, 138, 85]), (1, []), (3, [187, 140, 85]), (3, [325]), (1, []), (3, [188, 189, 86]), (1, []), (3, [190, 191, 86]), (3, [326]), (1, []), (1, []), (3, [188]), (3, [327]), (1, []), (1, [])],
  [(1, []), (1, []), (3, [])],
  [(1, []), (3, [327]), (1, []), (3, [188, 189, 86]), (1, []), (3, [190, 191, 86]), (1, []), (3, []), (3, [])],
  [(1, []), (1, []), (2, []), (3, [328]), (1, []), (3, [328]), (1, []), (3, [230, 112, 83]), (1, []), (3, [231, 232, 87]), (1, []), (1, []), (3, [325]), (1, []), (3, [326]), (3, [233, 234, 87]), (3, [329]), (1, []), (3, [260, 261, 88]), (1, []), (1, []), (3, [325]), (1, []), (3, [326]), (3, [262, 263, 88]), (3, [330]), (1, []), (3, [279, 280, 89]), (1, []), (1, []), (3, [325]), (1, []), (3, [326]), (3, [281, 282, 89]), (3, [331]), (1, []), (3, [301, 302, 90]), (1, []), (1, []), (3, [325]), (1, []), (3, [326]), (3, [303, 304, 90]), (3, [332]), (1, []), (2, []), (2, []), (3, [333]), (1, []), (1, []), (3, [337]), (1, [])]]
theorem ok_X8_init : am_ck 105 bk_X8_init ck_X8_init = true := am_ckD (by decide +kernel)
theorem ml_X8_init : am_ml 105 = 2 := by decide +kernel
theorem pn_X8_init : plainName (am_y 105).cls = true := by decide +kernel
/-- PaceBorder.row(II)I: number 106, loop heads [] -/
noncomputable def bl_X8_row_0 : am_B := (0, [(.aload_n 0, []), (.getfield 14, [8, 0, 2]), (.iload_n 1, []), (.invokevirtual 95, [81, 1, 6, 1]), (.ifCond .eq 9, [2, 1])], none)
noncomputable def bl_X8_row_1 : am_B := (11, [(.iload_n 2, []), (.bipush 40, []), (.if_icmp .le 5, [3, 2])], none)
noncomputable def bl_X8_row_2 : am_B := (17, [(.iconst (-1), []), (.ireturn, [0])], none)
noncomputable def bl_X8_row_3 : am_B := (19, [(.iload_n 2, []), (.ifCond .ge 9, [5, 4])], none)
noncomputable def bl_X8_row_4 : am_B := (23, [(.aload_n 0, []), (.iconst 5, []), (.invokevirtual 99, [154, 1, 8, 1]), (.ireturn, [0])], none)
noncomputable def bl_X8_row_5 : am_B := (29, [(.aload_n 0, []), (.getfield 14, [8, 0, 2]), (.iload_n 1, []), (.iload_n 2, []), (.invokevirtual 103, [86, 2, 6, 0]), (.iload_n 2, []), (.ireturn, [0])], none)
noncomputable def bk_X8_row : List am_B := [bl_X8_row_0, bl_X8_row_1, bl_X8_row_2, bl_X8_row_3, bl_X8_row_4, bl_X8_row_5]
noncomputable def ck_X8_row : List (List (Nat × List Nat)) := [[(1, []), (3, [322]), (1, []), (3, [375, 376, 377, 81]), (3, [])],
  [(1, []), (2, []), (3, [])],
  [(1, []), (1, [])],
  [(1, []), (3, [])],
  [(1, []), (1, []), (3, [379, 381, 0, 80]), (1, [])],
  [(1, []), (3, [322]), (1, []), (1, []), (3, [383, 384, 385, 81]), (1, []), (1, [])]]
theorem ok_X8_row : am_ck 106 bk_X8_row ck_X8_row = true := am_ckD (by decide +kernel)
theorem ml_X8_row : am_ml 106 = 3 := by decide +kernel
theorem pn_X8_row : plainName (am_y 106).cls = true := by decide +kernel
/-- PaceBorder.lay(III)I: number 107, loop heads [] -/
noncomputable def bl_X8_lay_0 : am_B := (0, [(.aload_n 0, []), (.getfield 14, [8, 0, 2]), (.iload_n 1, []), (.invokevirtual 95, [81, 1, 6, 1]), (.ifCond .ne 5, [2, 1])], none)
noncomputable def bl_X8_lay_1 : am_B := (11, [(.iconst (-1), []), (.ireturn, [0])], none)
noncomputable def bl_X8_lay_2 : am_B := (13, [(.aload_n 0, []), (.getfield 14, [8, 0, 2]), (.iload_n 1, []), (.iload_n 2, []), (.invokestatic 107, [157, 3, 0, 1]), (.istore 4, []), (.iload 4, []), (.ifCond .eq 10, [4, 3])], none)
noncomputable def bl_X8_lay_3 : am_B := (29, [(.aload_n 0, []), (.iload 4, []), (.invokevirtual 99, [154, 1, 8, 1]), (.ireturn, [0])], none)
noncomputable def bl_X8_lay_4 : am_B := (36, [(.aload_n 0, []), (.getfield 14, [8, 0, 2]), (.iload_n 1, []), (.iload_n 2, []), (.invokevirtual 111, [88, 2, 6, 1]), (.istore 5, []), (.aload_n 0, []), (.getfield 14, [8, 0, 2]), (.iload_n 1, []), (.iload_n 2, []), (.iload_n 3, []), (.invokevirtual 115, [89, 3, 6, 0]), (.aload_n 0, []), (.iload 5, []), (.invokevirtual 118, [155, 1, 8, 1]), (.ireturn, [0])], none)
noncomputable def bk_X8_lay : List am_B := [bl_X8_lay_0, bl_X8_lay_1, bl_X8_lay_2, bl_X8_lay_3, bl_X8_lay_4]
noncomputable def ck_X8_lay : List (List (Nat × List Nat)) := [[(1, []), (3, [322]), (1, []), (3, [375, 376, 377, 81]), (3, [])],
  [(1, []), (1, [])],
  [(1, []), (3, [322]), (1, []), (1, []), (3, [392, 393, 80]), (2, []), (2, []), (3, [])],
  [(1, []), (2, []), (3, [379, 381, 0, 80]), (1, [])],
  [(1, []), (3, [322]), (1, []), (1, []), (3, [407, 408, 409, 81]), (2, []), (1, []), (3, [322]), (1, []), (1, []), (1, []), (3, [411, 412, 413, 81]), (1, []), (2, []), (3, [416, 418, 1, 80]), (1, [])]]
theorem ok_X8_lay : am_ck 107 bk_X8_lay ck_X8_lay = true := am_ckD (by decide +kernel)
theorem ml_X8_lay : am_ml 107 = 6 := by decide +kernel
theorem pn_X8_lay : plainName (am_y 107).cls = true := by decide +kernel
/-- PaceBorder.at(II)I: number 108, loop heads [] -/
noncomputable def bl_X8_at_0 : am_B := (0, [(.aload_n 0, []), (.getfield 14, [8, 0, 2]), (.iload_n 1, []), (.invokevirtual 95, [81, 1, 6, 1]), (.ifCond .ne 5, [2, 1])], none)
noncomputable def bl_X8_at_1 : am_B := (11, [(.iconst (-1), []), (.ireturn, [0])], none)
noncomputable def bl_X8_at_2 : am_B := (13, [(.aload_n 0, []), (.getfield 14, [8, 0, 2]), (.iload_n 1, []), (.iload_n 2, []), (.invokestatic 107, [157, 3, 0, 1]), (.istore_n 3, []), (.iload_n 3, []), (.ifCond .eq 9, [4, 3])], none)
noncomputable def bl_X8_at_3 : am_B := (27, [(.aload_n 0, []), (.iload_n 3, []), (.invokevirtual 99, [154, 1, 8, 1]), (.ireturn, [0])], none)
noncomputable def bl_X8_at_4 : am_B := (33, [(.aload_n 0, []), (.aload_n 0, []), (.getfield 14, [8, 0, 2]), (.iload_n 1, []), (.iload_n 2, []), (.invokevirtual 111, [88, 2, 6, 1]), (.invokevirtual 118, [155, 1, 8, 1]), (.ireturn, [0])], none)
noncomputable def bk_X8_at : List am_B := [bl_X8_at_0, bl_X8_at_1, bl_X8_at_2, bl_X8_at_3, bl_X8_at_4]
noncomputable def ck_X8_at : List (List (Nat × List Nat)) := [[(1, []), (3, [322]), (1, []), (3, [375, 376, 377, 81]), (3, [])],
  [(1, []), (1, [])],
  [(1, []), (3, [322]), (1, []), (1, []), (3, [392, 393, 80]), (1, []), (1, []), (3, [])],
  [(1, []), (1, []), (3, [379, 381, 0, 80]), (1, [])],
  [(1, []), (1, []), (3, [322]), (1, []), (1, []), (3, [407, 408, 409, 81]), (3, [416, 418, 1, 80]), (1, [])]]
theorem ok_X8_at : am_ck 108 bk_X8_at ck_X8_at = true := am_ckD (by decide +kernel)
theorem ml_X8_at : am_ml 108 = 4 := by decide +kernel
theorem pn_X8_at : plainName (am_y 108).cls = true := by decide +kernel
/-- PaceBorder.tear(I)I: number 109, loop heads [] -/
noncomputable def bl_X8_tear_0 : am_B := (0, [(.aload_n 0, []), (.getfield 14, [8, 0, 2]), (.iload_n 1, []), (.invokevirtual 95, [81, 1, 6, 1]), (.ifCond .ne 5, [2, 1])], none)
noncomputable def bl_X8_tear_1 : am_B := (11, [(.iconst (-1), []), (.ireturn, [0])], none)
noncomputable def bl_X8_tear_2 : am_B := (13, [(.aload_n 0, []), (.getfield 14, [8, 0, 2]), (.iload_n 1, []), (.invokevirtual 121, [82, 1, 6, 1]), (.ifCond .ne 9, [4, 3])], none)
noncomputable def bl_X8_tear_3 : am_B := (24, [(.aload_n 0, []), (.iconst 1, []), (.invokevirtual 99, [154, 1, 8, 1]), (.ireturn, [0])], none)
noncomputable def bl_X8_tear_4 : am_B := (30, [(.aload_n 0, []), (.getfield 14, [8, 0, 2]), (.iload_n 1, []), (.invokevirtual 124, [87, 1, 6, 0]), (.iconst 1, []), (.ireturn, [0])], none)
noncomputable def bk_X8_tear : List am_B := [bl_X8_tear_0, bl_X8_tear_1, bl_X8_tear_2, bl_X8_tear_3, bl_X8_tear_4]
noncomputable def ck_X8_tear : List (List (Nat × List Nat)) := [[(1, []), (3, [322]), (1, []), (3, [375, 376, 377, 81]), (3, [])],
  [(1, []), (1, [])],
  [(1, []), (3, [322]), (1, []), (3, [395, 396, 397, 81]), (3, [])],
  [(1, []), (1, []), (3, [379, 381, 0, 80]), (1, [])],
  [(1, []), (3, [322]), (1, []), (3, [428, 429, 430, 81]), (1, []), (1, [])]]
theorem ok_X8_tear : am_ck 109 bk_X8_tear ck_X8_tear = true := am_ckD (by decide +kernel)
theorem ml_X8_tear : am_ml 109 = 2 := by decide +kernel
theorem pn_X8_tear : plainName (am_y 109).cls = true := by decide +kernel
/-- PaceBorder.copy(IIIII)I: number 110, loop heads [] -/
noncomputable def bl_X8_copy_0 : am_B := (0, [(.aload_n 0, []), (.getfield 14, [8, 0, 2]), (.iload_n 1, []), (.invokevirtual 95, [81, 1, 6, 1]), (.ifCond .eq 14, [2, 1])], none)
noncomputable def bl_X8_copy_1 : am_B := (11, [(.aload_n 0, []), (.getfield 14, [8, 0, 2]), (.iload_n 3, []), (.invokevirtual 95, [81, 1, 6, 1]), (.ifCond .ne 5, [3, 2])], none)
noncomputable def bl_X8_copy_2 : am_B := (22, [(.iconst (-1), []), (.ireturn, [0])], none)
noncomputable def bl_X8_copy_3 : am_B := (24, [(.iload 5, []), (.ifCond .ge 9, [5, 4])], none)
noncomputable def bl_X8_copy_4 : am_B := (29, [(.aload_n 0, []), (.iconst 5, []), (.invokevirtual 99, [154, 1, 8, 1]), (.ireturn, [0])], none)
noncomputable def bl_X8_copy_5 : am_B := (35, [(.aload_n 0, []), (.getfield 14, [8, 0, 2]), (.iload_n 1, []), (.invokevirtual 121, [82, 1, 6, 1]), (.ifCond .eq 14, [7, 6])], none)
noncomputable def bl_X8_copy_6 : am_B := (46, [(.aload_n 0, []), (.getfield 14, [8, 0, 2]), (.iload_n 3, []), (.invokevirtual 121, [82, 1, 6, 1]), (.ifCond .ne 9, [8, 7])], none)
noncomputable def bl_X8_copy_7 : am_B := (57, [(.aload_n 0, []), (.iconst 1, []), (.invokevirtual 99, [154, 1, 8, 1]), (.ireturn, [0])], none)
noncomputable def bl_X8_copy_8 : am_B := (63, [(.aload_n 0, []), (.getfield 14, [8, 0, 2]), (.iload_n 1, []), (.iload_n 2, []), (.iload 5, []), (.invokevirtual 128, [85, 3, 6, 1]), (.ifCond .eq 18, [10, 9])], none)
noncomputable def bl_X8_copy_9 : am_B := (77, [(.aload_n 0, []), (.getfield 14, [8, 0, 2]), (.iload_n 3, []), (.iload 4, []), (.iload 5, []), (.invokevirtual 128, [85, 3, 6, 1]), (.ifCond .ne 9, [11, 10])], none)
noncomputable def bl_X8_copy_10 : am_B := (92, [(.aload_n 0, []), (.iconst 2, []), (.invokevirtual 99, [154, 1, 8, 1]), (.ireturn, [0])], none)
noncomputable def bl_X8_copy_11 : am_B := (98, [(.aload_n 0, []), (.getfield 14, [8, 0, 2]), (.iload_n 1, []), (.iload_n 2, []), (.iload_n 3, []), (.iload 4, []), (.iload 5, []), (.invokevirtual 132, [90, 5, 6, 0]), (.iconst 1, []), (.ireturn, [0])], none)
noncomputable def bk_X8_copy : List am_B := [bl_X8_copy_0, bl_X8_copy_1, bl_X8_copy_2, bl_X8_copy_3, bl_X8_copy_4, bl_X8_copy_5, bl_X8_copy_6, bl_X8_copy_7, bl_X8_copy_8, bl_X8_copy_9, bl_X8_copy_10, bl_X8_copy_11]
noncomputable def ck_X8_copy : List (List (Nat × List Nat)) := [[(1, []), (3, [322]), (1, []), (3, [375, 376, 377, 81]), (3, [])],
  [(1, []), (3, [322]), (1, []), (3, [375, 376, 377, 81]), (3, [])],
  [(1, []), (1, [])],
  [(2, []), (3, [])],
  [(1, []), (1, []), (3, [379, 381, 0, 80]), (1, [])],
  [(1, []), (3, [322]), (1, []), (3, [395, 396, 397, 81]), (3, [])],
  [(1, []), (3, [322]), (1, []), (3, [395, 396, 397, 81]), (3, [])],
  [(1, []), (1, []), (3, [379, 381, 0, 80]), (1, [])],
  [(1, []), (3, [322]), (1, []), (1, []), (2, []), (3, [436, 437, 438, 81]), (3, [])],
  [(1, []), (3, [322]), (1, []), (2, []), (2, []), (3, [436, 437, 438, 81]), (3, [])],
  [(1, []), (1, []), (3, [379, 381, 0, 80]), (1, [])],
  [(1, []), (3, [322]), (1, []), (1, []), (1, []), (2, []), (2, []), (3, [440, 441, 442, 81]), (1, []), (1, [])]]
theorem ok_X8_copy : am_ck 110 bk_X8_copy ck_X8_copy = true := am_ckD (by decide +kernel)
theorem ml_X8_copy : am_ml 110 = 6 := by decide +kernel
theorem pn_X8_copy : plainName (am_y 110).cls = true := by decide +kernel
/-- PaceBorder.mean(I)I: number 111, loop heads [] -/
noncomputable def bl_X8_mean_0 : am_B := (0, [(.aload_n 0, []), (.getfield 14, [8, 0, 2]), (.iload_n 1, []), (.invokevirtual 95, [81, 1, 6, 1]), (.ifCond .ne 5, [2, 1])], none)
noncomputable def bl_X8_mean_1 : am_B := (11, [(.iconst (-1), []), (.ireturn, [0])], none)
noncomputable def bl_X8_mean_2 : am_B := (13, [(.aload_n 0, []), (.getfield 14, [8, 0, 2]), (.iload_n 1, []), (.invokevirtual 121, [82, 1, 6, 1]), (.ifCond .ne 9, [4, 3])], none)
noncomputable def bl_X8_mean_3 : am_B := (24, [(.aload_n 0, []), (.iconst 1, []), (.invokevirtual 99, [154, 1, 8, 1]), (.ireturn, [0])], none)
noncomputable def bl_X8_mean_4 : am_B := (30, [(.aload_n 0, []), (.getfield 14, [8, 0, 2]), (.iload_n 1, []), (.invokevirtual 136, [83, 1, 6, 1]), (.istore_n 2, []), (.iload_n 2, []), (.iconst 1, []), (.if_icmp .ge 9, [6, 5])], none)
noncomputable def bl_X8_mean_5 : am_B := (44, [(.aload_n 0, []), (.iconst 4, []), (.invokevirtual 99, [154, 1, 8, 1]), (.ireturn, [0])], none)
noncomputable def bl_X8_mean_6 : am_B := (50, [(.aload_n 0, []), (.aload_n 0, []), (.getfield 14, [8, 0, 2]), (.iload_n 1, []), (.invokevirtual 139, [91, 1, 6, 2]), (.iload_n 2, []), (.i2l, []), (.ldiv, []), (.l2i, []), (.invokevirtual 118, [155, 1, 8, 1]), (.ireturn, [0])], none)
noncomputable def bk_X8_mean : List am_B := [bl_X8_mean_0, bl_X8_mean_1, bl_X8_mean_2, bl_X8_mean_3, bl_X8_mean_4, bl_X8_mean_5, bl_X8_mean_6]
noncomputable def ck_X8_mean : List (List (Nat × List Nat)) := [[(1, []), (3, [322]), (1, []), (3, [375, 376, 377, 81]), (3, [])],
  [(1, []), (1, [])],
  [(1, []), (3, [322]), (1, []), (3, [395, 396, 397, 81]), (3, [])],
  [(1, []), (1, []), (3, [379, 381, 0, 80]), (1, [])],
  [(1, []), (3, [322]), (1, []), (3, [452, 400, 401, 81]), (1, []), (1, []), (1, []), (3, [])],
  [(1, []), (1, []), (3, [379, 381, 0, 80]), (1, [])],
  [(1, []), (1, []), (3, [322]), (1, []), (3, [453, 454, 455, 81]), (1, []), (1, []), (1, []), (1, []), (3, [416, 418, 1, 80]), (1, [])]]
theorem ok_X8_mean : am_ck 111 bk_X8_mean ck_X8_mean = true := am_ckD (by decide +kernel)
theorem ml_X8_mean : am_ml 111 = 3 := by decide +kernel
theorem pn_X8_mean : plainName (am_y 111).cls = true := by decide +kernel
/-- PaceBorder.text(II)I: number 112, loop heads [] -/
noncomputable def bl_X8_text_0 : am_B := (0, [(.aload_n 0, []), (.getfield 18, [8, 1, 2]), (.iload_n 1, []), (.invokevirtual 95, [81, 1, 6, 1]), (.ifCond .eq 9, [2, 1])], none)
noncomputable def bl_X8_text_1 : am_B := (11, [(.iload_n 2, []), (.bipush 60, []), (.if_icmp .le 5, [3, 2])], none)
noncomputable def bl_X8_text_2 : am_B := (17, [(.iconst (-1), []), (.ireturn, [0])], none)
noncomputable def bl_X8_text_3 : am_B := (19, [(.iload_n 2, []), (.ifCond .ge 9, [5, 4])], none)
noncomputable def bl_X8_text_4 : am_B := (23, [(.aload_n 0, []), (.iconst 5, []), (.invokevirtual 99, [154, 1, 8, 1]), (.ireturn, [0])], none)
noncomputable def bl_X8_text_5 : am_B := (29, [(.aload_n 0, []), (.getfield 18, [8, 1, 2]), (.iload_n 1, []), (.iload_n 2, []), (.invokevirtual 103, [86, 2, 6, 0]), (.iload_n 2, []), (.ireturn, [0])], none)
noncomputable def bk_X8_text : List am_B := [bl_X8_text_0, bl_X8_text_1, bl_X8_text_2, bl_X8_text_3, bl_X8_text_4, bl_X8_text_5]
noncomputable def ck_X8_text : List (List (Nat × List Nat)) := [[(1, []), (3, [323]), (1, []), (3, [375, 376, 377, 81]), (3, [])],
  [(1, []), (2, []), (3, [])],
  [(1, []), (1, [])],
  [(1, []), (3, [])],
  [(1, []), (1, []), (3, [379, 381, 0, 80]), (1, [])],
  [(1, []), (3, [323]), (1, []), (1, []), (3, [383, 384, 385, 81]), (1, []), (1, [])]]
theorem ok_X8_text : am_ck 112 bk_X8_text ck_X8_text = true := am_ckD (by decide +kernel)
theorem ml_X8_text : am_ml 112 = 3 := by decide +kernel
theorem pn_X8_text : plainName (am_y 112).cls = true := by decide +kernel
/-- PaceBorder.put(III)I: number 113, loop heads [] -/
noncomputable def bl_X8_put_0 : am_B := (0, [(.aload_n 0, []), (.getfield 18, [8, 1, 2]), (.iload_n 1, []), (.invokevirtual 95, [81, 1, 6, 1]), (.ifCond .ne 5, [2, 1])], none)
noncomputable def bl_X8_put_1 : am_B := (11, [(.iconst (-1), []), (.ireturn, [0])], none)
noncomputable def bl_X8_put_2 : am_B := (13, [(.aload_n 0, []), (.getfield 18, [8, 1, 2]), (.iload_n 1, []), (.iload_n 2, []), (.invokestatic 107, [157, 3, 0, 1]), (.istore 4, []), (.iload 4, []), (.ifCond .eq 10, [4, 3])], none)
noncomputable def bl_X8_put_3 : am_B := (29, [(.aload_n 0, []), (.iload 4, []), (.invokevirtual 99, [154, 1, 8, 1]), (.ireturn, [0])], none)
noncomputable def bl_X8_put_4 : am_B := (36, [(.aload_n 0, []), (.getfield 18, [8, 1, 2]), (.iload_n 1, []), (.iload_n 2, []), (.invokevirtual 111, [88, 2, 6, 1]), (.istore 5, []), (.aload_n 0, []), (.getfield 18, [8, 1, 2]), (.iload_n 1, []), (.iload_n 2, []), (.iload_n 3, []), (.i2b, []), (.invokevirtual 115, [89, 3, 6, 0]), (.iload 5, []), (.sipush 1000, []), (.iadd, []), (.ireturn, [0])], none)
noncomputable def bk_X8_put : List am_B := [bl_X8_put_0, bl_X8_put_1, bl_X8_put_2, bl_X8_put_3, bl_X8_put_4]
noncomputable def ck_X8_put : List (List (Nat × List Nat)) := [[(1, []), (3, [323]), (1, []), (3, [375, 376, 377, 81]), (3, [])],
  [(1, []), (1, [])],
  [(1, []), (3, [323]), (1, []), (1, []), (3, [392, 393, 80]), (2, []), (2, []), (3, [])],
  [(1, []), (2, []), (3, [379, 381, 0, 80]), (1, [])],
  [(1, []), (3, [323]), (1, []), (1, []), (3, [407, 408, 409, 81]), (2, []), (1, []), (3, [323]), (1, []), (1, []), (1, []), (1, []), (3, [411, 412, 413, 81]), (2, []), (3, []), (1, []), (1, [])]]
theorem ok_X8_put : am_ck 113 bk_X8_put ck_X8_put = true := am_ckD (by decide +kernel)
theorem ml_X8_put : am_ml 113 = 6 := by decide +kernel
theorem pn_X8_put : plainName (am_y 113).cls = true := by decide +kernel
/-- PaceBorder.fault(I)I: number 114, loop heads [] -/
noncomputable def bl_X8_fault_0 : am_B := (0, [(.aload_n 0, []), (.getfield 18, [8, 1, 2]), (.iload_n 1, []), (.invokevirtual 95, [81, 1, 6, 1]), (.ifCond .ne 5, [2, 1])], none)
noncomputable def bl_X8_fault_1 : am_B := (11, [(.iconst (-1), []), (.ireturn, [0])], none)
noncomputable def bl_X8_fault_2 : am_B := (13, [(.aload_n 0, []), (.getfield 18, [8, 1, 2]), (.iload_n 1, []), (.invokevirtual 121, [82, 1, 6, 1]), (.ifCond .ne 9, [4, 3])], none)
noncomputable def bl_X8_fault_3 : am_B := (24, [(.aload_n 0, []), (.iconst 1, []), (.invokevirtual 99, [154, 1, 8, 1]), (.ireturn, [0])], none)
noncomputable def bl_X8_fault_4 : am_B := (30, [(.aload_n 0, []), (.getfield 26, [8, 2, 2]), (.iload_n 1, []), (.invokevirtual 143, [73, 1, 5, 1]), (.ireturn, [0])], none)
noncomputable def bk_X8_fault : List am_B := [bl_X8_fault_0, bl_X8_fault_1, bl_X8_fault_2, bl_X8_fault_3, bl_X8_fault_4]
noncomputable def ck_X8_fault : List (List (Nat × List Nat)) := [[(1, []), (3, [323]), (1, []), (3, [375, 376, 377, 81]), (3, [])],
  [(1, []), (1, [])],
  [(1, []), (3, [323]), (1, []), (3, [395, 396, 397, 81]), (3, [])],
  [(1, []), (1, []), (3, [379, 381, 0, 80]), (1, [])],
  [(1, []), (3, [324]), (1, []), (3, [470, 471, 472, 84]), (1, [])]]
theorem ok_X8_fault : am_ck 114 bk_X8_fault ck_X8_fault = true := am_ckD (by decide +kernel)
theorem ml_X8_fault : am_ml 114 = 2 := by decide +kernel
theorem pn_X8_fault : plainName (am_y 114).cls = true := by decide +kernel
/-- PaceBorder.land(I)I: number 115, loop heads [] -/
noncomputable def bl_X8_land_0 : am_B := (0, [(.aload_n 0, []), (.getfield 18, [8, 1, 2]), (.iload_n 1, []), (.invokevirtual 95, [81, 1, 6, 1]), (.ifCond .ne 5, [2, 1])], none)
noncomputable def bl_X8_land_1 : am_B := (11, [(.iconst (-1), []), (.ireturn, [0])], none)
noncomputable def bl_X8_land_2 : am_B := (13, [(.aload_n 0, []), (.getfield 18, [8, 1, 2]), (.iload_n 1, []), (.invokevirtual 121, [82, 1, 6, 1]), (.ifCond .ne 9, [4, 3])], none)
noncomputable def bl_X8_land_3 : am_B := (24, [(.aload_n 0, []), (.iconst 1, []), (.invokevirtual 99, [154, 1, 8, 1]), (.ireturn, [0])], none)
noncomputable def bl_X8_land_4 : am_B := (30, [(.aload_n 0, []), (.getfield 26, [8, 2, 2]), (.iload_n 1, []), (.invokevirtual 143, [73, 1, 5, 1]), (.bipush (-9), []), (.if_icmp .eq 6, [6, 5])], none)
noncomputable def bl_X8_land_5 : am_B := (43, [(.bipush (-4), []), (.ireturn, [0])], none)
noncomputable def bl_X8_land_6 : am_B := (46, [(.aload_n 0, []), (.getfield 33, [8, 3, 2]), (.aload_n 0, []), (.getfield 26, [8, 2, 2]), (.getfield 146, [5, 0, 2]), (.invokevirtual 149, [31, 1, 2, 0]), (.aload_n 0, []), (.getfield 40, [8, 4, 2]), (.aload_n 0, []), (.getfield 26, [8, 2, 2]), (.getfield 153, [5, 1, 0]), (.aload_n 0, []), (.getfield 26, [8, 2, 2]), (.getfield 157, [5, 2, 0]), (.aload_n 0, []), (.getfield 26, [8, 2, 2]), (.getfield 160, [5, 3, 0]), (.invokevirtual 163, [13, 3, 1, 0]), (.aload_n 0, []), (.getfield 48, [8, 6, 2]), (.iconst (-1), []), (.invokestatic 52, [277, 2, 0, 0]), (.aload_n 0, []), (.getfield 33, [8, 3, 2]), (.getfield 166, [2, 0, 0]), (.ireturn, [0])], none)
noncomputable def bk_X8_land : List am_B := [bl_X8_land_0, bl_X8_land_1, bl_X8_land_2, bl_X8_land_3, bl_X8_land_4, bl_X8_land_5, bl_X8_land_6]
noncomputable def ck_X8_land : List (List (Nat × List Nat)) := [[(1, []), (3, [323]), (1, []), (3, [375, 376, 377, 81]), (3, [])],
  [(1, []), (1, [])],
  [(1, []), (3, [323]), (1, []), (3, [395, 396, 397, 81]), (3, [])],
  [(1, []), (1, []), (3, [379, 381, 0, 80]), (1, [])],
  [(1, []), (3, [324]), (1, []), (3, [470, 471, 472, 84]), (2, []), (3, [])],
  [(2, []), (1, [])],
  [(1, []), (3, [325]), (1, []), (3, [324]), (3, [161]), (3, [516, 517, 518, 85]), (1, []), (3, [326]), (1, []), (3, [324]), (3, [163]), (1, []), (3, [324]), (3, [165]), (1, []), (3, [324]), (3, [167]), (3, [521, 522, 523, 86]), (1, []), (3, [328]), (1, []), (3, [230, 112, 83]), (1, []), (3, [325]), (3, [150]), (1, [])]]
theorem ok_X8_land : am_ck 115 bk_X8_land ck_X8_land = true := am_ckD (by decide +kernel)
theorem ml_X8_land : am_ml 115 = 2 := by decide +kernel
theorem pn_X8_land : plainName (am_y 115).cls = true := by decide +kernel
/-- PaceBorder.strip(II)I: number 116, loop heads [] -/
noncomputable def bl_X8_strip_0 : am_B := (0, [(.aload_n 0, []), (.getfield 33, [8, 3, 2]), (.iload_n 1, []), (.invokevirtual 169, [33, 1, 2, 1]), (.ifCond .eq 13, [3, 1])], none)
noncomputable def bl_X8_strip_1 : am_B := (11, [(.iload_n 2, []), (.ifCond .lt 9, [3, 2])], none)
noncomputable def bl_X8_strip_2 : am_B := (15, [(.iload_n 2, []), (.bipush 6, []), (.if_icmp .lt 5, [4, 3])], none)
noncomputable def bl_X8_strip_3 : am_B := (21, [(.iconst (-1), []), (.ireturn, [0])], none)
noncomputable def bl_X8_strip_4 : am_B := (23, [(.aload_n 0, []), (.aload_n 0, []), (.iload_n 1, []), (.iload_n 2, []), (.invokevirtual 172, [165, 2, 8, 1]), (.invokevirtual 118, [155, 1, 8, 1]), (.ireturn, [0])], none)
noncomputable def bk_X8_strip : List am_B := [bl_X8_strip_0, bl_X8_strip_1, bl_X8_strip_2, bl_X8_strip_3, bl_X8_strip_4]
noncomputable def ck_X8_strip : List (List (Nat × List Nat)) := [[(1, []), (3, [325]), (1, []), (3, [529, 530, 531, 85]), (3, [])],
  [(1, []), (3, [])],
  [(1, []), (2, []), (3, [])],
  [(1, []), (1, [])],
  [(1, []), (1, []), (1, []), (1, []), (3, [533, 535, 7, 80]), (3, [416, 418, 1, 80]), (1, [])]]
theorem ok_X8_strip : am_ck 116 bk_X8_strip ck_X8_strip = true := am_ckD (by decide +kernel)
theorem ml_X8_strip : am_ml 116 = 3 := by decide +kernel
theorem pn_X8_strip : plainName (am_y 116).cls = true := by decide +kernel
/-- PaceBorder.mark(II)I: number 117, loop heads [] -/
noncomputable def bl_X8_mark_0 : am_B := (0, [(.aload_n 0, []), (.getfield 33, [8, 3, 2]), (.iload_n 1, []), (.invokevirtual 169, [33, 1, 2, 1]), (.ifCond .eq 13, [3, 1])], none)
noncomputable def bl_X8_mark_1 : am_B := (11, [(.iload_n 2, []), (.ifCond .le 9, [3, 2])], none)
noncomputable def bl_X8_mark_2 : am_B := (15, [(.iload_n 2, []), (.bipush 6, []), (.if_icmp .lt 5, [4, 3])], none)
noncomputable def bl_X8_mark_3 : am_B := (21, [(.iconst (-1), []), (.ireturn, [0])], none)
noncomputable def bl_X8_mark_4 : am_B := (23, [(.aload_n 0, []), (.getfield 33, [8, 3, 2]), (.iload_n 1, []), (.iload_n 2, []), (.invokevirtual 175, [37, 2, 2, 1]), (.ifCond .ne 9, [6, 5])], none)
noncomputable def bl_X8_mark_5 : am_B := (35, [(.aload_n 0, []), (.iconst 3, []), (.invokevirtual 99, [154, 1, 8, 1]), (.ireturn, [0])], none)
noncomputable def bl_X8_mark_6 : am_B := (41, [(.iload_n 2, []), (.tableswitch 86 2 4 #[26, 46, 64], [16, 7, 11, 15])], none)
noncomputable def bl_X8_mark_7 : am_B := (68, [(.iload_n 1, []), (.aload_n 0, []), (.getfield 40, [8, 4, 2]), (.getfield 179, [1, 1, 0]), (.invokestatic 180, [40, 2, 0, 1]), (.ifCond .eq 7, [9, 8])], none)
noncomputable def bl_X8_mark_8 : am_B := (82, [(.iconst 1, []), (.goto 4, [10])], none)
noncomputable def bl_X8_mark_9 : am_B := (86, [(.iconst 0, [])], some 10)
noncomputable def bl_X8_mark_10 : am_B := (87, [(.ireturn, [0])], none)
noncomputable def bl_X8_mark_11 : am_B := (88, [(.aload_n 0, []), (.getfield 40, [8, 4, 2]), (.getfield 183, [1, 0, 0]), (.iconst 2, []), (.irem, []), (.ifCond .ne 7, [13, 12])], none)
noncomputable def bl_X8_mark_12 : am_B := (100, [(.iconst 1, []), (.goto 4, [14])], none)
noncomputable def bl_X8_mark_13 : am_B := (104, [(.iconst 0, [])], some 14)
noncomputable def bl_X8_mark_14 : am_B := (105, [(.ireturn, [0])], none)
noncomputable def bl_X8_mark_15 : am_B := (106, [(.aload_n 0, []), (.getfield 40, [8, 4, 2]), (.aload_n 0, []), (.getfield 33, [8, 3, 2]), (.iload_n 1, []), (.aload_n 0, []), (.getfield 40, [8, 4, 2]), (.getfield 179, [1, 1, 0]), (.invokevirtual 186, [24, 3, 1, 1]), (.iconst 2, []), (.idiv, []), (.ireturn, [0])], none)
noncomputable def bl_X8_mark_16 : am_B := (128, [(.aload_n 0, []), (.getfield 40, [8, 4, 2]), (.aload_n 0, []), (.getfield 33, [8, 3, 2]), (.iload_n 1, []), (.aload_n 0, []), (.getfield 40, [8, 4, 2]), (.getfield 179, [1, 1, 0]), (.invokevirtual 186, [24, 3, 1, 1]), (.ireturn, [0])], none)
noncomputable def bk_X8_mark : List am_B := [bl_X8_mark_0, bl_X8_mark_1, bl_X8_mark_2, bl_X8_mark_3, bl_X8_mark_4, bl_X8_mark_5, bl_X8_mark_6, bl_X8_mark_7, bl_X8_mark_8, bl_X8_mark_9, bl_X8_mark_10, bl_X8_mark_11, bl_X8_mark_12, bl_X8_mark_13, bl_X8_mark_14, bl_X8_mark_15, bl_X8_mark_16]
noncomputable def ck_X8_mark : List (List (Nat × List Nat)) := [[(1, []), (3, [325]), (1, []), (3, [529, 530, 531, 85]), (3, [])],
  [(1, []), (3, [])],
  [(1, []), (2, []), (3, [])],
  [(1, []), (1, [])],
  [(1, []), (3, [325]), (1, []), (1, []), (3, [569, 570, 571, 85]), (3, [])],
  [(1, []), (1, []), (3, [379, 381, 0, 80]), (1, [])],
  [(1, []), (26, [])],
  [(1, []), (1, []), (3, [326]), (3, [205]), (3, [574, 575, 85]), (3, [])],
  [(1, []), (3, [])],
  [(1, [])],
  [(1, [])],
  [(1, []), (3, [326]), (3, [199]), (1, []), (1, []), (3, [])],
  [(1, []), (3, [])],
  [(1, [])],
  [(1, [])],
  [(1, []), (3, [326]), (1, []), (3, [325]), (1, []), (1, []), (3, [326]), (3, [205]), (3, [577, 578, 579, 86]), (1, []), (1, []), (1, [])],
  [(1, []), (3, [326]), (1, []), (3, [325]), (1, []), (1, []), (3, [326]), (3, [205]), (3, [577, 578, 579, 86]), (1, [])]]
theorem ok_X8_mark : am_ck 117 bk_X8_mark ck_X8_mark = true := am_ckD (by decide +kernel)
theorem ml_X8_mark : am_ml 117 = 3 := by decide +kernel
theorem pn_X8_mark : plainName (am_y 117).cls = true := by decide +kernel
/-- PaceBorder.rate(II)I: number 118, loop heads [] -/
noncomputable def bl_X8_rate_0 : am_B := (0, [(.iload_n 1, []), (.invokestatic 190, [159, 1, 0, 1]), (.ifCond .eq 14, [3, 1])], none)
noncomputable def bl_X8_rate_1 : am_B := (7, [(.iload_n 2, []), (.iconst 1, []), (.if_icmp .lt 9, [3, 2])], none)
noncomputable def bl_X8_rate_2 : am_B := (12, [(.iload_n 2, []), (.bipush 9, []), (.if_icmp .le 5, [4, 3])], none)
noncomputable def bl_X8_rate_3 : am_B := (18, [(.iconst (-1), []), (.ireturn, [0])], none)
noncomputable def bl_X8_rate_4 : am_B := (20, [(.aload_n 0, []), (.invokevirtual 193, [158, 0, 8, 1]), (.ifCond .eq 6, [6, 5])], none)
noncomputable def bl_X8_rate_5 : am_B := (27, [(.bipush (-4), []), (.ireturn, [0])], none)
noncomputable def bl_X8_rate_6 : am_B := (30, [(.aload_n 0, []), (.getfield 40, [8, 4, 2]), (.iload_n 1, []), (.invokevirtual 197, [15, 1, 1, 1]), (.istore_n 3, []), (.aload_n 0, []), (.getfield 40, [8, 4, 2]), (.iload_n 1, []), (.iload_n 2, []), (.invokevirtual 200, [16, 2, 1, 0]), (.iload_n 3, []), (.ireturn, [0])], none)
noncomputable def bk_X8_rate : List am_B := [bl_X8_rate_0, bl_X8_rate_1, bl_X8_rate_2, bl_X8_rate_3, bl_X8_rate_4, bl_X8_rate_5, bl_X8_rate_6]
noncomputable def ck_X8_rate : List (List (Nat × List Nat)) := [[(1, []), (3, [592, 593, 80]), (3, [])],
  [(1, []), (1, []), (3, [])],
  [(1, []), (2, []), (3, [])],
  [(1, []), (1, [])],
  [(1, []), (3, [595, 597, 8, 80]), (3, [])],
  [(2, []), (1, [])],
  [(1, []), (3, [326]), (1, []), (3, [599, 600, 601, 86]), (1, []), (1, []), (3, [326]), (1, []), (1, []), (3, [603, 604, 605, 86]), (1, []), (1, [])]]
theorem ok_X8_rate : am_ck 118 bk_X8_rate ck_X8_rate = true := am_ckD (by decide +kernel)
theorem ml_X8_rate : am_ml 118 = 4 := by decide +kernel
theorem pn_X8_rate : plainName (am_y 118).cls = true := by decide +kernel
/-- PaceBorder.day(II)I: number 119, loop heads [] -/
noncomputable def bl_X8_day_0 : am_B := (0, [(.iload_n 1, []), (.ifCond .lt 17, [4, 1])], none)
noncomputable def bl_X8_day_1 : am_B := (4, [(.iload_n 1, []), (.iconst 3, []), (.if_icmp .gt 12, [4, 2])], none)
noncomputable def bl_X8_day_2 : am_B := (9, [(.iload_n 2, []), (.ifCond .lt 8, [4, 3])], none)
noncomputable def bl_X8_day_3 : am_B := (13, [(.iload_n 2, []), (.iconst 3, []), (.if_icmp .le 5, [5, 4])], none)
noncomputable def bl_X8_day_4 : am_B := (18, [(.iconst (-1), []), (.ireturn, [0])], none)
noncomputable def bl_X8_day_5 : am_B := (20, [(.aload_n 0, []), (.invokevirtual 193, [158, 0, 8, 1]), (.ifCond .eq 6, [7, 6])], none)
noncomputable def bl_X8_day_6 : am_B := (27, [(.bipush (-4), []), (.ireturn, [0])], none)
noncomputable def bl_X8_day_7 : am_B := (30, [(.aload_n 0, []), (.getfield 40, [8, 4, 2]), (.getfield 183, [1, 0, 0]), (.bipush 40, []), (.if_icmp .lt 6, [9, 8])], none)
noncomputable def bl_X8_day_8 : am_B := (42, [(.bipush (-2), []), (.ireturn, [0])], none)
noncomputable def bl_X8_day_9 : am_B := (45, [(.aload_n 0, []), (.getfield 40, [8, 4, 2]), (.aload_n 0, []), (.getfield 33, [8, 3, 2]), (.iload_n 1, []), (.iload_n 2, []), (.invokevirtual 203, [17, 3, 1, 0]), (.aload_n 0, []), (.getfield 40, [8, 4, 2]), (.getfield 179, [1, 1, 0]), (.ireturn, [0])], none)
noncomputable def bk_X8_day : List am_B := [bl_X8_day_0, bl_X8_day_1, bl_X8_day_2, bl_X8_day_3, bl_X8_day_4, bl_X8_day_5, bl_X8_day_6, bl_X8_day_7, bl_X8_day_8, bl_X8_day_9]
noncomputable def ck_X8_day : List (List (Nat × List Nat)) := [[(1, []), (3, [])],
  [(1, []), (1, []), (3, [])],
  [(1, []), (3, [])],
  [(1, []), (1, []), (3, [])],
  [(1, []), (1, [])],
  [(1, []), (3, [595, 597, 8, 80]), (3, [])],
  [(2, []), (1, [])],
  [(1, []), (3, [326]), (3, [199]), (2, []), (3, [])],
  [(2, []), (1, [])],
  [(1, []), (3, [326]), (1, []), (3, [325]), (1, []), (1, []), (3, [611, 612, 613, 86]), (1, []), (3, [326]), (3, [205]), (1, [])]]
theorem ok_X8_day : am_ck 119 bk_X8_day ck_X8_day = true := am_ckD (by decide +kernel)
theorem ml_X8_day : am_ml 119 = 3 := by decide +kernel
theorem pn_X8_day : plainName (am_y 119).cls = true := by decide +kernel
/-- PaceBorder.undo(I)I: number 120, loop heads [] -/
noncomputable def bl_X8_undo_0 : am_B := (0, [(.iload_n 1, []), (.ifCond .lt 14, [2, 1])], none)
noncomputable def bl_X8_undo_1 : am_B := (4, [(.iload_n 1, []), (.aload_n 0, []), (.getfield 40, [8, 4, 2]), (.getfield 183, [1, 0, 0]), (.if_icmp .le 5, [3, 2])], none)
noncomputable def bl_X8_undo_2 : am_B := (15, [(.iconst (-1), []), (.ireturn, [0])], none)
noncomputable def bl_X8_undo_3 : am_B := (17, [(.aload_n 0, []), (.getfield 40, [8, 4, 2]), (.getfield 183, [1, 0, 0]), (.iload_n 1, []), (.isub, []), (.istore_n 2, []), (.aload_n 0, []), (.getfield 40, [8, 4, 2]), (.iload_n 1, []), (.invokevirtual 207, [20, 1, 1, 0]), (.iload_n 2, []), (.ireturn, [0])], none)
noncomputable def bk_X8_undo : List am_B := [bl_X8_undo_0, bl_X8_undo_1, bl_X8_undo_2, bl_X8_undo_3]
noncomputable def ck_X8_undo : List (List (Nat × List Nat)) := [[(1, []), (3, [])],
  [(1, []), (1, []), (3, [326]), (3, [199]), (3, [])],
  [(1, []), (1, [])],
  [(1, []), (3, [326]), (3, [199]), (1, []), (1, []), (1, []), (1, []), (3, [326]), (1, []), (3, [641, 642, 643, 86]), (1, []), (1, [])]]
theorem ok_X8_undo : am_ck 120 bk_X8_undo ck_X8_undo = true := am_ckD (by decide +kernel)
theorem ml_X8_undo : am_ml 120 = 3 := by decide +kernel
theorem pn_X8_undo : plainName (am_y 120).cls = true := by decide +kernel
/-- PaceBorder.border()I: number 121, loop heads [] -/
noncomputable def bl_X8_border_0 : am_B := (0, [(.aload_n 0, []), (.invokevirtual 193, [158, 0, 8, 1]), (.ifCond .eq 6, [2, 1])], none)
noncomputable def bl_X8_border_1 : am_B := (7, [(.bipush (-4), []), (.ireturn, [0])], none)
noncomputable def bl_X8_border_2 : am_B := (10, [(.aload_n 0, []), (.aload_n 0, []), (.getfield 40, [8, 4, 2]), (.getfield 183, [1, 0, 0]), (.invokevirtual 118, [155, 1, 8, 1]), (.pop, []), (.aload_n 0, []), (.getfield 40, [8, 4, 2]), (.getfield 179, [1, 1, 0]), (.ireturn, [0])], none)
noncomputable def bk_X8_border : List am_B := [bl_X8_border_0, bl_X8_border_1, bl_X8_border_2]
noncomputable def ck_X8_border : List (List (Nat × List Nat)) := [[(1, []), (3, [595, 597, 8, 80]), (3, [])],
  [(2, []), (1, [])],
  [(1, []), (1, []), (3, [326]), (3, [199]), (3, [416, 418, 1, 80]), (1, []), (1, []), (3, [326]), (3, [205]), (1, [])]]
theorem ok_X8_border : am_ck 121 bk_X8_border ck_X8_border = true := am_ckD (by decide +kernel)
theorem ml_X8_border : am_ml 121 = 1 := by decide +kernel
theorem pn_X8_border : plainName (am_y 121).cls = true := by decide +kernel
/-- PaceBorder.lain(I)I: number 122, loop heads [] -/
noncomputable def bl_X8_lain_0 : am_B := (0, [(.iload_n 1, []), (.ifCond .lt 14, [2, 1])], none)
noncomputable def bl_X8_lain_1 : am_B := (4, [(.iload_n 1, []), (.aload_n 0, []), (.getfield 40, [8, 4, 2]), (.getfield 183, [1, 0, 0]), (.if_icmp .le 5, [3, 2])], none)
noncomputable def bl_X8_lain_2 : am_B := (15, [(.iconst (-1), []), (.ireturn, [0])], none)
noncomputable def bl_X8_lain_3 : am_B := (17, [(.aload_n 0, []), (.getfield 40, [8, 4, 2]), (.iload_n 1, []), (.invokevirtual 210, [21, 1, 1, 1]), (.ireturn, [0])], none)
noncomputable def bk_X8_lain : List am_B := [bl_X8_lain_0, bl_X8_lain_1, bl_X8_lain_2, bl_X8_lain_3]
noncomputable def ck_X8_lain : List (List (Nat × List Nat)) := [[(1, []), (3, [])],
  [(1, []), (1, []), (3, [326]), (3, [199]), (3, [])],
  [(1, []), (1, [])],
  [(1, []), (3, [326]), (1, []), (3, [653, 561, 562, 86]), (1, [])]]
theorem ok_X8_lain : am_ck 122 bk_X8_lain ck_X8_lain = true := am_ckD (by decide +kernel)
theorem ml_X8_lain : am_ml 122 = 2 := by decide +kernel
theorem pn_X8_lain : plainName (am_y 122).cls = true := by decide +kernel
/-- PaceBorder.got(I)I: number 123, loop heads [3] -/
noncomputable def bl_X8_got_0 : am_B := (0, [(.iload_n 1, []), (.invokestatic 190, [159, 1, 0, 1]), (.ifCond .ne 5, [2, 1])], none)
noncomputable def bl_X8_got_1 : am_B := (7, [(.iconst (-1), []), (.ireturn, [0])], none)
noncomputable def bl_X8_got_2 : am_B := (9, [(.iconst 0, []), (.istore_n 2, []), (.iconst 0, []), (.istore_n 3, [])], some 1003)
noncomputable def bl_X8_got_3 : am_B := (13, [(.iload_n 3, []), (.aload_n 0, []), (.getfield 33, [8, 3, 2]), (.getfield 166, [2, 0, 0]), (.if_icmp .ge 21, [1005, 4])], none)
noncomputable def bl_X8_got_4 : am_B := (24, [(.iload_n 2, []), (.aload_n 0, []), (.getfield 40, [8, 4, 2]), (.iload_n 3, []), (.iload_n 1, []), (.invokevirtual 213, [22, 2, 1, 1]), (.iadd, []), (.istore_n 2, []), (.iinc 3 1, []), (.goto (-26), [1003])], none)
noncomputable def bl_X8_got_5 : am_B := (42, [(.iload_n 2, []), (.ireturn, [0])], none)
noncomputable def bk_X8_got : List am_B := [bl_X8_got_0, bl_X8_got_1, bl_X8_got_2, bl_X8_got_3, bl_X8_got_4, bl_X8_got_5]
noncomputable def ck_X8_got : List (List (Nat × List Nat)) := [[(1, []), (3, [592, 593, 80]), (3, [])],
  [(1, []), (1, [])],
  [(1, []), (1, []), (1, []), (1, [])],
  [(1, []), (1, []), (3, [325]), (3, [150]), (3, [])],
  [(1, []), (1, []), (3, [326]), (1, []), (1, []), (3, [549, 550, 551, 86]), (1, []), (1, []), (3, []), (3, [])],
  [(1, []), (1, [])]]
theorem ok_X8_got : am_ck 123 bk_X8_got ck_X8_got = true := am_ckD (by decide +kernel)
theorem ml_X8_got : am_ml 123 = 4 := by decide +kernel
theorem pn_X8_got : plainName (am_y 123).cls = true := by decide +kernel
/-- PaceBorder.keep(I)I: number 124, loop heads [] -/
noncomputable def bl_X8_keep_0 : am_B := (0, [(.iload_n 1, []), (.ifCond .lt 8, [2, 1])], none)
noncomputable def bl_X8_keep_1 : am_B := (4, [(.iload_n 1, []), (.iconst 3, []), (.if_icmp .lt 5, [3, 2])], none)
noncomputable def bl_X8_keep_2 : am_B := (9, [(.iconst (-1), []), (.ireturn, [0])], none)
noncomputable def bl_X8_keep_3 : am_B := (11, [(.aload_n 0, []), (.invokevirtual 193, [158, 0, 8, 1]), (.ifCond .eq 6, [5, 4])], none)
noncomputable def bl_X8_keep_4 : am_B := (18, [(.bipush (-4), []), (.ireturn, [0])], none)
noncomputable def bl_X8_keep_5 : am_B := (21, [(.aload_n 0, []), (.getfield 40, [8, 4, 2]), (.aload_n 0, []), (.getfield 44, [8, 5, 2]), (.iload_n 1, []), (.aaload, []), (.invokestatic 216, [14, 2, 0, 0]), (.aload_n 0, []), (.getfield 48, [8, 6, 2]), (.iload_n 1, []), (.aload_n 0, []), (.getfield 40, [8, 4, 2]), (.getfield 183, [1, 0, 0]), (.iastore, []), (.aload_n 0, []), (.getfield 40, [8, 4, 2]), (.getfield 183, [1, 0, 0]), (.ireturn, [0])], none)
noncomputable def bk_X8_keep : List am_B := [bl_X8_keep_0, bl_X8_keep_1, bl_X8_keep_2, bl_X8_keep_3, bl_X8_keep_4, bl_X8_keep_5]
noncomputable def ck_X8_keep : List (List (Nat × List Nat)) := [[(1, []), (3, [])],
  [(1, []), (1, []), (3, [])],
  [(1, []), (1, [])],
  [(1, []), (3, [595, 597, 8, 80]), (3, [])],
  [(2, []), (1, [])],
  [(1, []), (3, [326]), (1, []), (3, [327]), (1, []), (1, []), (3, [662, 663, 86]), (1, []), (3, [328]), (1, []), (1, []), (3, [326]), (3, [199]), (1, []), (1, []), (3, [326]), (3, [199]), (1, [])]]
theorem ok_X8_keep : am_ck 124 bk_X8_keep ck_X8_keep = true := am_ckD (by decide +kernel)
theorem ml_X8_keep : am_ml 124 = 2 := by decide +kernel
theorem pn_X8_keep : plainName (am_y 124).cls = true := by decide +kernel
/-- PaceBorder.on(I)I: number 125, loop heads [] -/
noncomputable def bl_X8_on_0 : am_B := (0, [(.iload_n 1, []), (.ifCond .lt 8, [2, 1])], none)
noncomputable def bl_X8_on_1 : am_B := (4, [(.iload_n 1, []), (.iconst 3, []), (.if_icmp .lt 5, [3, 2])], none)
noncomputable def bl_X8_on_2 : am_B := (9, [(.iconst (-1), []), (.ireturn, [0])], none)
noncomputable def bl_X8_on_3 : am_B := (11, [(.aload_n 0, []), (.getfield 48, [8, 6, 2]), (.iload_n 1, []), (.iaload, []), (.iconst (-1), []), (.if_icmp .ne 9, [5, 4])], none)
noncomputable def bl_X8_on_4 : am_B := (21, [(.aload_n 0, []), (.iconst 1, []), (.invokevirtual 99, [154, 1, 8, 1]), (.ireturn, [0])], none)
noncomputable def bl_X8_on_5 : am_B := (27, [(.aload_n 0, []), (.getfield 44, [8, 5, 2]), (.iload_n 1, []), (.aaload, []), (.aload_n 0, []), (.getfield 40, [8, 4, 2]), (.invokestatic 216, [14, 2, 0, 0]), (.aload_n 0, []), (.getfield 40, [8, 4, 2]), (.getfield 183, [1, 0, 0]), (.ireturn, [0])], none)
noncomputable def bk_X8_on : List am_B := [bl_X8_on_0, bl_X8_on_1, bl_X8_on_2, bl_X8_on_3, bl_X8_on_4, bl_X8_on_5]
noncomputable def ck_X8_on : List (List (Nat × List Nat)) := [[(1, []), (3, [])],
  [(1, []), (1, []), (3, [])],
  [(1, []), (1, [])],
  [(1, []), (3, [328]), (1, []), (1, []), (1, []), (3, [])],
  [(1, []), (1, []), (3, [379, 381, 0, 80]), (1, [])],
  [(1, []), (3, [327]), (1, []), (1, []), (1, []), (3, [326]), (3, [662, 663, 86]), (1, []), (3, [326]), (3, [199]), (1, [])]]
theorem ok_X8_on : am_ck 125 bk_X8_on ck_X8_on = true := am_ckD (by decide +kernel)
theorem ml_X8_on : am_ml 125 = 2 := by decide +kernel
theorem pn_X8_on : plainName (am_y 125).cls = true := by decide +kernel
/-- PaceBorder.moves()I: number 126, loop heads [3] -/
noncomputable def bl_X8_moves_0 : am_B := (0, [(.aload_n 0, []), (.invokevirtual 193, [158, 0, 8, 1]), (.ifCond .eq 6, [2, 1])], none)
noncomputable def bl_X8_moves_1 : am_B := (7, [(.bipush (-4), []), (.ireturn, [0])], none)
noncomputable def bl_X8_moves_2 : am_B := (10, [(.iconst 0, []), (.istore_n 1, []), (.iconst (-1), []), (.istore_n 2, [])], some 1003)
noncomputable def bl_X8_moves_3 : am_B := (14, [(.iload_n 2, []), (.iconst 1, []), (.if_icmp .gt 42, [1007, 4])], none)
noncomputable def bl_X8_moves_4 : am_B := (19, [(.aload_n 0, []), (.getfield 33, [8, 3, 2]), (.aload_n 0, []), (.getfield 40, [8, 4, 2]), (.getfield 179, [1, 1, 0]), (.iload_n 2, []), (.aload_n 0, []), (.getfield 40, [8, 4, 2]), (.getfield 183, [1, 0, 0]), (.invokevirtual 220, [41, 3, 2, 1]), (.ifCond .lt 11, [6, 5])], none)
noncomputable def bl_X8_moves_5 : am_B := (44, [(.iload_n 1, []), (.iconst 1, []), (.iload_n 2, []), (.iconst 1, []), (.iadd, []), (.ishl, []), (.ior, []), (.istore_n 1, [])], some 6)
noncomputable def bl_X8_moves_6 : am_B := (52, [(.iinc 2 1, []), (.goto (-41), [1003])], none)
noncomputable def bl_X8_moves_7 : am_B := (58, [(.iload_n 1, []), (.ireturn, [0])], none)
noncomputable def bk_X8_moves : List am_B := [bl_X8_moves_0, bl_X8_moves_1, bl_X8_moves_2, bl_X8_moves_3, bl_X8_moves_4, bl_X8_moves_5, bl_X8_moves_6, bl_X8_moves_7]
noncomputable def ck_X8_moves : List (List (Nat × List Nat)) := [[(1, []), (3, [595, 597, 8, 80]), (3, [])],
  [(2, []), (1, [])],
  [(1, []), (1, []), (1, []), (1, [])],
  [(1, []), (1, []), (3, [])],
  [(1, []), (3, [325]), (1, []), (3, [326]), (3, [205]), (1, []), (1, []), (3, [326]), (3, [199]), (3, [674, 623, 624, 85]), (3, [])],
  [(1, []), (1, []), (1, []), (1, []), (1, []), (1, []), (1, []), (1, [])],
  [(3, []), (3, [])],
  [(1, []), (1, [])]]
theorem ok_X8_moves : am_ck 126 bk_X8_moves ck_X8_moves = true := am_ckD (by decide +kernel)
theorem ml_X8_moves : am_ml 126 = 3 := by decide +kernel
theorem pn_X8_moves : plainName (am_y 126).cls = true := by decide +kernel
/-- PaceBorder.judge(I)I: number 127, loop heads [] -/
noncomputable def bl_X8_judge_0 : am_B := (0, [(.aload_n 0, []), (.getfield 14, [8, 0, 2]), (.iload_n 1, []), (.invokevirtual 95, [81, 1, 6, 1]), (.ifCond .ne 5, [2, 1])], none)
noncomputable def bl_X8_judge_1 : am_B := (11, [(.iconst (-1), []), (.ireturn, [0])], none)
noncomputable def bl_X8_judge_2 : am_B := (13, [(.aload_n 0, []), (.invokevirtual 193, [158, 0, 8, 1]), (.ifCond .eq 6, [4, 3])], none)
noncomputable def bl_X8_judge_3 : am_B := (20, [(.bipush (-4), []), (.ireturn, [0])], none)
noncomputable def bl_X8_judge_4 : am_B := (23, [(.aload_n 0, []), (.getfield 14, [8, 0, 2]), (.iload_n 1, []), (.invokevirtual 121, [82, 1, 6, 1]), (.ifCond .ne 9, [6, 5])], none)
noncomputable def bl_X8_judge_5 : am_B := (34, [(.aload_n 0, []), (.iconst 1, []), (.invokevirtual 99, [154, 1, 8, 1]), (.ireturn, [0])], none)
noncomputable def bl_X8_judge_6 : am_B := (40, [(.aload_n 0, []), (.getfield 14, [8, 0, 2]), (.iload_n 1, []), (.iconst (-1), []), (.iconst 1, []), (.invokevirtual 224, [92, 3, 6, 1]), (.ifCond .ne 9, [8, 7])], none)
noncomputable def bl_X8_judge_7 : am_B := (53, [(.aload_n 0, []), (.iconst 3, []), (.invokevirtual 99, [154, 1, 8, 1]), (.ireturn, [0])], none)
noncomputable def bl_X8_judge_8 : am_B := (59, [(.aload_n 0, []), (.getfield 63, [8, 7, 2]), (.aload_n 0, []), (.getfield 14, [8, 0, 2]), (.iload_n 1, []), (.invokevirtual 227, [51, 2, 4, 1]), (.istore_n 2, []), (.aload_n 0, []), (.aload_n 0, []), (.getfield 63, [8, 7, 2]), (.aload_n 0, []), (.getfield 14, [8, 0, 2]), (.iload_n 1, []), (.iload_n 2, []), (.invokevirtual 231, [52, 3, 4, 1]), (.invokevirtual 118, [155, 1, 8, 1]), (.pop, []), (.iload_n 2, []), (.ireturn, [0])], none)
noncomputable def bk_X8_judge : List am_B := [bl_X8_judge_0, bl_X8_judge_1, bl_X8_judge_2, bl_X8_judge_3, bl_X8_judge_4, bl_X8_judge_5, bl_X8_judge_6, bl_X8_judge_7, bl_X8_judge_8]
noncomputable def ck_X8_judge : List (List (Nat × List Nat)) := [[(1, []), (3, [322]), (1, []), (3, [375, 376, 377, 81]), (3, [])],
  [(1, []), (1, [])],
  [(1, []), (3, [595, 597, 8, 80]), (3, [])],
  [(2, []), (1, [])],
  [(1, []), (3, [322]), (1, []), (3, [395, 396, 397, 81]), (3, [])],
  [(1, []), (1, []), (3, [379, 381, 0, 80]), (1, [])],
  [(1, []), (3, [322]), (1, []), (1, []), (1, []), (3, [679, 680, 681, 81]), (3, [])],
  [(1, []), (1, []), (3, [379, 381, 0, 80]), (1, [])],
  [(1, []), (3, [329]), (1, []), (3, [322]), (1, []), (3, [683, 684, 685, 87]), (1, []), (1, []), (1, []), (3, [329]), (1, []), (3, [322]), (1, []), (1, []), (3, [690, 691, 692, 87]), (3, [416, 418, 1, 80]), (1, []), (1, []), (1, [])]]
theorem ok_X8_judge : am_ck 127 bk_X8_judge ck_X8_judge = true := am_ckD (by decide +kernel)
theorem ml_X8_judge : am_ml 127 = 3 := by decide +kernel
theorem pn_X8_judge : plainName (am_y 127).cls = true := by decide +kernel
/-- PaceBorder.rude(I)I: number 128, loop heads [] -/
noncomputable def bl_X8_rude_0 : am_B := (0, [(.aload_n 0, []), (.getfield 14, [8, 0, 2]), (.iload_n 1, []), (.invokevirtual 95, [81, 1, 6, 1]), (.ifCond .ne 5, [2, 1])], none)
noncomputable def bl_X8_rude_1 : am_B := (11, [(.iconst (-1), []), (.ireturn, [0])], none)
noncomputable def bl_X8_rude_2 : am_B := (13, [(.aload_n 0, []), (.invokevirtual 193, [158, 0, 8, 1]), (.ifCond .eq 6, [4, 3])], none)
noncomputable def bl_X8_rude_3 : am_B := (20, [(.bipush (-4), []), (.ireturn, [0])], none)
noncomputable def bl_X8_rude_4 : am_B := (23, [(.aload_n 0, []), (.getfield 14, [8, 0, 2]), (.iload_n 1, []), (.invokevirtual 121, [82, 1, 6, 1]), (.ifCond .ne 9, [6, 5])], none)
noncomputable def bl_X8_rude_5 : am_B := (34, [(.aload_n 0, []), (.iconst 1, []), (.invokevirtual 99, [154, 1, 8, 1]), (.ireturn, [0])], none)
noncomputable def bl_X8_rude_6 : am_B := (40, [(.aload_n 0, []), (.iload_n 1, []), (.invokevirtual 234, [163, 1, 8, 1]), (.ifCond .ne 9, [8, 7])], none)
noncomputable def bl_X8_rude_7 : am_B := (48, [(.aload_n 0, []), (.iconst 3, []), (.invokevirtual 99, [154, 1, 8, 1]), (.ireturn, [0])], none)
noncomputable def bl_X8_rude_8 : am_B := (54, [(.aload_n 0, []), (.getfield 63, [8, 7, 2]), (.aload_n 0, []), (.getfield 14, [8, 0, 2]), (.iload_n 1, []), (.invokevirtual 237, [53, 2, 4, 1]), (.ireturn, [0])], none)
noncomputable def bk_X8_rude : List am_B := [bl_X8_rude_0, bl_X8_rude_1, bl_X8_rude_2, bl_X8_rude_3, bl_X8_rude_4, bl_X8_rude_5, bl_X8_rude_6, bl_X8_rude_7, bl_X8_rude_8]
noncomputable def ck_X8_rude : List (List (Nat × List Nat)) := [[(1, []), (3, [322]), (1, []), (3, [375, 376, 377, 81]), (3, [])],
  [(1, []), (1, [])],
  [(1, []), (3, [595, 597, 8, 80]), (3, [])],
  [(2, []), (1, [])],
  [(1, []), (3, [322]), (1, []), (3, [395, 396, 397, 81]), (3, [])],
  [(1, []), (1, []), (3, [379, 381, 0, 80]), (1, [])],
  [(1, []), (1, []), (3, [698, 700, 10, 80]), (3, [])],
  [(1, []), (1, []), (3, [379, 381, 0, 80]), (1, [])],
  [(1, []), (3, [329]), (1, []), (3, [322]), (1, []), (3, [702, 703, 704, 87]), (1, [])]]
theorem ok_X8_rude : am_ck 128 bk_X8_rude ck_X8_rude = true := am_ckD (by decide +kernel)
theorem ml_X8_rude : am_ml 128 = 2 := by decide +kernel
theorem pn_X8_rude : plainName (am_y 128).cls = true := by decide +kernel
/-- PaceBorder.pays(II)I: number 129, loop heads [] -/
noncomputable def bl_X8_pays_0 : am_B := (0, [(.aload_n 0, []), (.getfield 33, [8, 3, 2]), (.iload_n 1, []), (.invokevirtual 169, [33, 1, 2, 1]), (.ifCond .eq 14, [2, 1])], none)
noncomputable def bl_X8_pays_1 : am_B := (11, [(.aload_n 0, []), (.getfield 14, [8, 0, 2]), (.iload_n 2, []), (.invokevirtual 95, [81, 1, 6, 1]), (.ifCond .ne 5, [3, 2])], none)
noncomputable def bl_X8_pays_2 : am_B := (22, [(.iconst (-1), []), (.ireturn, [0])], none)
noncomputable def bl_X8_pays_3 : am_B := (24, [(.aload_n 0, []), (.getfield 14, [8, 0, 2]), (.iload_n 2, []), (.invokevirtual 121, [82, 1, 6, 1]), (.ifCond .ne 9, [5, 4])], none)
noncomputable def bl_X8_pays_4 : am_B := (35, [(.aload_n 0, []), (.iconst 1, []), (.invokevirtual 99, [154, 1, 8, 1]), (.ireturn, [0])], none)
noncomputable def bl_X8_pays_5 : am_B := (41, [(.aload_n 0, []), (.iload_n 2, []), (.invokevirtual 234, [163, 1, 8, 1]), (.ifCond .ne 9, [7, 6])], none)
noncomputable def bl_X8_pays_6 : am_B := (49, [(.aload_n 0, []), (.iconst 3, []), (.invokevirtual 99, [154, 1, 8, 1]), (.ireturn, [0])], none)
noncomputable def bl_X8_pays_7 : am_B := (55, [(.aload_n 0, []), (.getfield 63, [8, 7, 2]), (.iload_n 1, []), (.invokevirtual 240, [56, 1, 4, 0]), (.aload_n 0, []), (.getfield 63, [8, 7, 2]), (.aload_n 0, []), (.getfield 14, [8, 0, 2]), (.iload_n 2, []), (.invokevirtual 243, [54, 2, 4, 1]), (.ireturn, [0])], none)
noncomputable def bk_X8_pays : List am_B := [bl_X8_pays_0, bl_X8_pays_1, bl_X8_pays_2, bl_X8_pays_3, bl_X8_pays_4, bl_X8_pays_5, bl_X8_pays_6, bl_X8_pays_7]
noncomputable def ck_X8_pays : List (List (Nat × List Nat)) := [[(1, []), (3, [325]), (1, []), (3, [529, 530, 531, 85]), (3, [])],
  [(1, []), (3, [322]), (1, []), (3, [375, 376, 377, 81]), (3, [])],
  [(1, []), (1, [])],
  [(1, []), (3, [322]), (1, []), (3, [395, 396, 397, 81]), (3, [])],
  [(1, []), (1, []), (3, [379, 381, 0, 80]), (1, [])],
  [(1, []), (1, []), (3, [698, 700, 10, 80]), (3, [])],
  [(1, []), (1, []), (3, [379, 381, 0, 80]), (1, [])],
  [(1, []), (3, [329]), (1, []), (3, [710, 711, 712, 87]), (1, []), (3, [329]), (1, []), (3, [322]), (1, []), (3, [715, 716, 717, 87]), (1, [])]]
theorem ok_X8_pays : am_ck 129 bk_X8_pays ck_X8_pays = true := am_ckD (by decide +kernel)
theorem ml_X8_pays : am_ml 129 = 3 := by decide +kernel
theorem pn_X8_pays : plainName (am_y 129).cls = true := by decide +kernel
/-- PaceBorder.soonest(II)I: number 130, loop heads [] -/
noncomputable def bl_X8_soonest_0 : am_B := (0, [(.aload_n 0, []), (.getfield 33, [8, 3, 2]), (.iload_n 1, []), (.invokevirtual 246, [34, 1, 2, 1]), (.ifCond .eq 14, [2, 1])], none)
noncomputable def bl_X8_soonest_1 : am_B := (11, [(.aload_n 0, []), (.getfield 14, [8, 0, 2]), (.iload_n 2, []), (.invokevirtual 95, [81, 1, 6, 1]), (.ifCond .ne 5, [3, 2])], none)
noncomputable def bl_X8_soonest_2 : am_B := (22, [(.iconst (-1), []), (.ireturn, [0])], none)
noncomputable def bl_X8_soonest_3 : am_B := (24, [(.aload_n 0, []), (.invokevirtual 193, [158, 0, 8, 1]), (.ifCond .eq 6, [5, 4])], none)
noncomputable def bl_X8_soonest_4 : am_B := (31, [(.bipush (-4), []), (.ireturn, [0])], none)
noncomputable def bl_X8_soonest_5 : am_B := (34, [(.aload_n 0, []), (.getfield 63, [8, 7, 2]), (.iload_n 1, []), (.invokevirtual 249, [65, 1, 4, 1]), (.istore_n 3, []), (.iload_n 3, []), (.ifCond .ge 6, [7, 6])], none)
noncomputable def bl_X8_soonest_6 : am_B := (47, [(.bipush (-9), []), (.ireturn, [0])], none)
noncomputable def bl_X8_soonest_7 : am_B := (50, [(.aload_n 0, []), (.getfield 63, [8, 7, 2]), (.invokevirtual 252, [55, 0, 4, 0]), (.aload_n 0, []), (.getfield 63, [8, 7, 2]), (.iload_n 3, []), (.iload_n 1, []), (.iconst 0, []), (.invokevirtual 255, [59, 3, 4, 0]), (.aload_n 0, []), (.iload_n 3, []), (.iload_n 2, []), (.invokevirtual 259, [164, 2, 8, 0]), (.iload_n 3, []), (.ireturn, [0])], none)
noncomputable def bk_X8_soonest : List am_B := [bl_X8_soonest_0, bl_X8_soonest_1, bl_X8_soonest_2, bl_X8_soonest_3, bl_X8_soonest_4, bl_X8_soonest_5, bl_X8_soonest_6, bl_X8_soonest_7]
noncomputable def ck_X8_soonest : List (List (Nat × List Nat)) := [[(1, []), (3, [325]), (1, []), (3, [728, 729, 730, 85]), (3, [])],
  [(1, []), (3, [322]), (1, []), (3, [375, 376, 377, 81]), (3, [])],
  [(1, []), (1, [])],
  [(1, []), (3, [595, 597, 8, 80]), (3, [])],
  [(2, []), (1, [])],
  [(1, []), (3, [329]), (1, []), (3, [732, 733, 734, 87]), (1, []), (1, []), (3, [])],
  [(2, []), (1, [])],
  [(1, []), (3, [329]), (3, [744, 745, 746, 87]), (1, []), (3, [329]), (1, []), (1, []), (1, []), (3, [749, 750, 751, 87]), (1, []), (1, []), (1, []), (3, [773, 775, 17, 80]), (1, []), (1, [])]]
theorem ok_X8_soonest : am_ck 130 bk_X8_soonest ck_X8_soonest = true := am_ckD (by decide +kernel)
theorem ml_X8_soonest : am_ml 130 = 4 := by decide +kernel
theorem pn_X8_soonest : plainName (am_y 130).cls = true := by decide +kernel
/-- PaceBorder.polite(III)I: number 131, loop heads [] -/
noncomputable def bl_X8_polite_0 : am_B := (0, [(.aload_n 0, []), (.getfield 33, [8, 3, 2]), (.iload_n 1, []), (.invokevirtual 246, [34, 1, 2, 1]), (.ifCond .eq 21, [3, 1])], none)
noncomputable def bl_X8_polite_1 : am_B := (11, [(.iload_n 2, []), (.invokestatic 262, [160, 1, 0, 1]), (.ifCond .eq 14, [3, 2])], none)
noncomputable def bl_X8_polite_2 : am_B := (18, [(.aload_n 0, []), (.getfield 14, [8, 0, 2]), (.iload_n 3, []), (.invokevirtual 95, [81, 1, 6, 1]), (.ifCond .ne 5, [4, 3])], none)
noncomputable def bl_X8_polite_3 : am_B := (29, [(.iconst (-1), []), (.ireturn, [0])], none)
noncomputable def bl_X8_polite_4 : am_B := (31, [(.aload_n 0, []), (.invokevirtual 193, [158, 0, 8, 1]), (.ifCond .eq 6, [6, 5])], none)
noncomputable def bl_X8_polite_5 : am_B := (38, [(.bipush (-4), []), (.ireturn, [0])], none)
noncomputable def bl_X8_polite_6 : am_B := (41, [(.aload_n 0, []), (.getfield 63, [8, 7, 2]), (.invokevirtual 252, [55, 0, 4, 0]), (.aload_n 0, []), (.getfield 63, [8, 7, 2]), (.iload_n 2, []), (.iload_n 1, []), (.iconst 1, []), (.invokevirtual 255, [59, 3, 4, 0]), (.aload_n 0, []), (.getfield 63, [8, 7, 2]), (.iconst 0, []), (.aload_n 0, []), (.getfield 40, [8, 4, 2]), (.getfield 179, [1, 1, 0]), (.invokevirtual 265, [62, 2, 4, 1]), (.istore 4, []), (.iload 4, []), (.ldc_w 268, [1000000]), (.if_icmp .lt 6, [8, 7])], none)
noncomputable def bl_X8_polite_7 : am_B := (83, [(.bipush (-9), []), (.ireturn, [0])], none)
noncomputable def bl_X8_polite_8 : am_B := (86, [(.aload_n 0, []), (.iload_n 2, []), (.iload_n 3, []), (.invokevirtual 259, [164, 2, 8, 0]), (.iload 4, []), (.ireturn, [0])], none)
noncomputable def bk_X8_polite : List am_B := [bl_X8_polite_0, bl_X8_polite_1, bl_X8_polite_2, bl_X8_polite_3, bl_X8_polite_4, bl_X8_polite_5, bl_X8_polite_6, bl_X8_polite_7, bl_X8_polite_8]
noncomputable def ck_X8_polite : List (List (Nat × List Nat)) := [[(1, []), (3, [325]), (1, []), (3, [728, 729, 730, 85]), (3, [])],
  [(1, []), (3, [785, 786, 80]), (3, [])],
  [(1, []), (3, [322]), (1, []), (3, [375, 376, 377, 81]), (3, [])],
  [(1, []), (1, [])],
  [(1, []), (3, [595, 597, 8, 80]), (3, [])],
  [(2, []), (1, [])],
  [(1, []), (3, [329]), (3, [744, 745, 746, 87]), (1, []), (3, [329]), (1, []), (1, []), (1, []), (3, [749, 750, 751, 87]), (1, []), (3, [329]), (1, []), (1, []), (3, [326]), (3, [205]), (3, [788, 767, 768, 87]), (2, []), (2, []), (3, [789]), (3, [])],
  [(2, []), (1, [])],
  [(1, []), (1, []), (1, []), (3, [773, 775, 17, 80]), (2, []), (1, [])]]
theorem ok_X8_polite : am_ck 131 bk_X8_polite ck_X8_polite = true := am_ckD (by decide +kernel)
theorem ml_X8_polite : am_ml 131 = 5 := by decide +kernel
theorem pn_X8_polite : plainName (am_y 131).cls = true := by decide +kernel
/-- PaceBorder.ways(II)I: number 132, loop heads [] -/
noncomputable def bl_X8_ways_0 : am_B := (0, [(.aload_n 0, []), (.getfield 33, [8, 3, 2]), (.iload_n 1, []), (.invokevirtual 246, [34, 1, 2, 1]), (.ifCond .eq 10, [2, 1])], none)
noncomputable def bl_X8_ways_1 : am_B := (11, [(.iload_n 2, []), (.invokestatic 262, [160, 1, 0, 1]), (.ifCond .ne 5, [3, 2])], none)
noncomputable def bl_X8_ways_2 : am_B := (18, [(.iconst (-1), []), (.ireturn, [0])], none)
noncomputable def bl_X8_ways_3 : am_B := (20, [(.aload_n 0, []), (.invokevirtual 193, [158, 0, 8, 1]), (.ifCond .eq 6, [5, 4])], none)
noncomputable def bl_X8_ways_4 : am_B := (27, [(.bipush (-4), []), (.ireturn, [0])], none)
noncomputable def bl_X8_ways_5 : am_B := (30, [(.aload_n 0, []), (.aload_n 0, []), (.getfield 63, [8, 7, 2]), (.iload_n 1, []), (.iload_n 2, []), (.invokevirtual 269, [69, 2, 4, 2]), (.lconst 1, []), (.invokevirtual 273, [156, 2, 8, 1]), (.ireturn, [0])], none)
noncomputable def bk_X8_ways : List am_B := [bl_X8_ways_0, bl_X8_ways_1, bl_X8_ways_2, bl_X8_ways_3, bl_X8_ways_4, bl_X8_ways_5]
noncomputable def ck_X8_ways : List (List (Nat × List Nat)) := [[(1, []), (3, [325]), (1, []), (3, [728, 729, 730, 85]), (3, [])],
  [(1, []), (3, [785, 786, 80]), (3, [])],
  [(1, []), (1, [])],
  [(1, []), (3, [595, 597, 8, 80]), (3, [])],
  [(2, []), (1, [])],
  [(1, []), (1, []), (3, [329]), (1, []), (1, []), (3, [794, 795, 796, 87]), (1, []), (3, [809, 811, 19, 80]), (1, [])]]
theorem ok_X8_ways : am_ck 132 bk_X8_ways ck_X8_ways = true := am_ckD (by decide +kernel)
theorem ml_X8_ways : am_ml 132 = 3 := by decide +kernel
theorem pn_X8_ways : plainName (am_y 132).cls = true := by decide +kernel
/-- PaceBorder.reach(I)I: number 133, loop heads [] -/
noncomputable def bl_X8_reach_0 : am_B := (0, [(.iload_n 1, []), (.invokestatic 262, [160, 1, 0, 1]), (.ifCond .ne 5, [2, 1])], none)
noncomputable def bl_X8_reach_1 : am_B := (7, [(.iconst (-1), []), (.ireturn, [0])], none)
noncomputable def bl_X8_reach_2 : am_B := (9, [(.aload_n 0, []), (.invokevirtual 193, [158, 0, 8, 1]), (.ifCond .eq 6, [4, 3])], none)
noncomputable def bl_X8_reach_3 : am_B := (16, [(.bipush (-4), []), (.ireturn, [0])], none)
noncomputable def bl_X8_reach_4 : am_B := (19, [(.aload_n 0, []), (.getfield 63, [8, 7, 2]), (.iload_n 1, []), (.invokevirtual 277, [66, 1, 4, 1]), (.ireturn, [0])], none)
noncomputable def bk_X8_reach : List am_B := [bl_X8_reach_0, bl_X8_reach_1, bl_X8_reach_2, bl_X8_reach_3, bl_X8_reach_4]
noncomputable def ck_X8_reach : List (List (Nat × List Nat)) := [[(1, []), (3, [785, 786, 80]), (3, [])],
  [(1, []), (1, [])],
  [(1, []), (3, [595, 597, 8, 80]), (3, [])],
  [(2, []), (1, [])],
  [(1, []), (3, [329]), (1, []), (3, [818, 819, 820, 87]), (1, [])]]
theorem ok_X8_reach : am_ck 133 bk_X8_reach ck_X8_reach = true := am_ckD (by decide +kernel)
theorem ml_X8_reach : am_ml 133 = 2 := by decide +kernel
theorem pn_X8_reach : plainName (am_y 133).cls = true := by decide +kernel
/-- PaceBorder.least(III)I: number 134, loop heads [] -/
noncomputable def bl_X8_least_0 : am_B := (0, [(.aload_n 0, []), (.getfield 33, [8, 3, 2]), (.iload_n 1, []), (.invokevirtual 169, [33, 1, 2, 1]), (.ifCond .eq 21, [3, 1])], none)
noncomputable def bl_X8_least_1 : am_B := (11, [(.iload_n 2, []), (.invokestatic 262, [160, 1, 0, 1]), (.ifCond .eq 14, [3, 2])], none)
noncomputable def bl_X8_least_2 : am_B := (18, [(.aload_n 0, []), (.getfield 14, [8, 0, 2]), (.iload_n 3, []), (.invokevirtual 95, [81, 1, 6, 1]), (.ifCond .ne 5, [4, 3])], none)
noncomputable def bl_X8_least_3 : am_B := (29, [(.iconst (-1), []), (.ireturn, [0])], none)
noncomputable def bl_X8_least_4 : am_B := (31, [(.aload_n 0, []), (.getfield 63, [8, 7, 2]), (.iload_n 1, []), (.invokevirtual 240, [56, 1, 4, 0]), (.aload_n 0, []), (.getfield 63, [8, 7, 2]), (.iload_n 2, []), (.iconst (-1), []), (.iconst 0, []), (.invokevirtual 255, [59, 3, 4, 0]), (.aload_n 0, []), (.iload_n 2, []), (.iload_n 3, []), (.invokevirtual 259, [164, 2, 8, 0]), (.aload_n 0, []), (.getfield 63, [8, 7, 2]), (.iconst 0, []), (.aload_n 0, []), (.getfield 40, [8, 4, 2]), (.getfield 179, [1, 1, 0]), (.invokevirtual 265, [62, 2, 4, 1]), (.ireturn, [0])], none)
noncomputable def bk_X8_least : List am_B := [bl_X8_least_0, bl_X8_least_1, bl_X8_least_2, bl_X8_least_3, bl_X8_least_4]
noncomputable def ck_X8_least : List (List (Nat × List Nat)) := [[(1, []), (3, [325]), (1, []), (3, [529, 530, 531, 85]), (3, [])],
  [(1, []), (3, [785, 786, 80]), (3, [])],
  [(1, []), (3, [322]), (1, []), (3, [375, 376, 377, 81]), (3, [])],
  [(1, []), (1, [])],
  [(1, []), (3, [329]), (1, []), (3, [710, 711, 712, 87]), (1, []), (3, [329]), (1, []), (1, []), (1, []), (3, [749, 750, 751, 87]), (1, []), (1, []), (1, []), (3, [773, 775, 17, 80]), (1, []), (3, [329]), (1, []), (1, []), (3, [326]), (3, [205]), (3, [788, 767, 768, 87]), (1, [])]]
theorem ok_X8_least : am_ck 134 bk_X8_least ck_X8_least = true := am_ckD (by decide +kernel)
theorem ml_X8_least : am_ml 134 = 4 := by decide +kernel
theorem pn_X8_least : plainName (am_y 134).cls = true := by decide +kernel
/-- PaceBorder.most(II)I: number 135, loop heads [] -/
noncomputable def bl_X8_most_0 : am_B := (0, [(.iload_n 1, []), (.invokestatic 190, [159, 1, 0, 1]), (.ifCond .eq 10, [2, 1])], none)
noncomputable def bl_X8_most_1 : am_B := (7, [(.iload_n 2, []), (.invokestatic 262, [160, 1, 0, 1]), (.ifCond .ne 5, [3, 2])], none)
noncomputable def bl_X8_most_2 : am_B := (14, [(.iconst (-1), []), (.ireturn, [0])], none)
noncomputable def bl_X8_most_3 : am_B := (16, [(.aload_n 0, []), (.invokevirtual 193, [158, 0, 8, 1]), (.ifCond .eq 6, [5, 4])], none)
noncomputable def bl_X8_most_4 : am_B := (23, [(.bipush (-4), []), (.ireturn, [0])], none)
noncomputable def bl_X8_most_5 : am_B := (26, [(.aload_n 0, []), (.getfield 63, [8, 7, 2]), (.iload_n 1, []), (.invokevirtual 280, [57, 1, 4, 0]), (.aload_n 0, []), (.getfield 63, [8, 7, 2]), (.iload_n 2, []), (.iconst (-1), []), (.iconst 0, []), (.invokevirtual 255, [59, 3, 4, 0]), (.aload_n 0, []), (.getfield 63, [8, 7, 2]), (.iconst 0, []), (.aload_n 0, []), (.getfield 40, [8, 4, 2]), (.getfield 179, [1, 1, 0]), (.invokevirtual 265, [62, 2, 4, 1]), (.ineg, []), (.ireturn, [0])], none)
noncomputable def bk_X8_most : List am_B := [bl_X8_most_0, bl_X8_most_1, bl_X8_most_2, bl_X8_most_3, bl_X8_most_4, bl_X8_most_5]
noncomputable def ck_X8_most : List (List (Nat × List Nat)) := [[(1, []), (3, [592, 593, 80]), (3, [])],
  [(1, []), (3, [785, 786, 80]), (3, [])],
  [(1, []), (1, [])],
  [(1, []), (3, [595, 597, 8, 80]), (3, [])],
  [(2, []), (1, [])],
  [(1, []), (3, [329]), (1, []), (3, [830, 831, 832, 87]), (1, []), (3, [329]), (1, []), (1, []), (1, []), (3, [749, 750, 751, 87]), (1, []), (3, [329]), (1, []), (1, []), (3, [326]), (3, [205]), (3, [788, 767, 768, 87]), (1, []), (1, [])]]
theorem ok_X8_most : am_ck 135 bk_X8_most ck_X8_most = true := am_ckD (by decide +kernel)
theorem ml_X8_most : am_ml 135 = 3 := by decide +kernel
theorem pn_X8_most : plainName (am_y 135).cls = true := by decide +kernel
/-- PaceBorder.now()I: number 136, loop heads [] -/
noncomputable def bl_X8_now_0 : am_B := (0, [(.aload_n 0, []), (.invokevirtual 193, [158, 0, 8, 1]), (.ifCond .eq 6, [2, 1])], none)
noncomputable def bl_X8_now_1 : am_B := (7, [(.bipush (-4), []), (.ireturn, [0])], none)
noncomputable def bl_X8_now_2 : am_B := (10, [(.aload_n 0, []), (.aload_n 0, []), (.getfield 40, [8, 4, 2]), (.aload_n 0, []), (.getfield 33, [8, 3, 2]), (.iconst 1, []), (.aload_n 0, []), (.getfield 40, [8, 4, 2]), (.getfield 179, [1, 1, 0]), (.invokevirtual 283, [25, 3, 1, 1]), (.invokevirtual 118, [155, 1, 8, 1]), (.pop, []), (.aload_n 0, []), (.getfield 40, [8, 4, 2]), (.aload_n 0, []), (.getfield 33, [8, 3, 2]), (.iconst 0, []), (.aload_n 0, []), (.getfield 40, [8, 4, 2]), (.getfield 179, [1, 1, 0]), (.invokevirtual 283, [25, 3, 1, 1]), (.ireturn, [0])], none)
noncomputable def bk_X8_now : List am_B := [bl_X8_now_0, bl_X8_now_1, bl_X8_now_2]
noncomputable def ck_X8_now : List (List (Nat × List Nat)) := [[(1, []), (3, [595, 597, 8, 80]), (3, [])],
  [(2, []), (1, [])],
  [(1, []), (1, []), (3, [326]), (1, []), (3, [325]), (1, []), (1, []), (3, [326]), (3, [205]), (3, [842, 835, 836, 86]), (3, [416, 418, 1, 80]), (1, []), (1, []), (3, [326]), (1, []), (3, [325]), (1, []), (1, []), (3, [326]), (3, [205]), (3, [842, 835, 836, 86]), (1, [])]]
theorem ok_X8_now : am_ck 136 bk_X8_now ck_X8_now = true := am_ckD (by decide +kernel)
theorem ml_X8_now : am_ml 136 = 1 := by decide +kernel
theorem pn_X8_now : plainName (am_y 136).cls = true := by decide +kernel
/-- PaceBorder.odds(II)I: number 137, loop heads [] -/
noncomputable def bl_X8_odds_0 : am_B := (0, [(.aload_n 0, []), (.getfield 33, [8, 3, 2]), (.iload_n 1, []), (.invokevirtual 246, [34, 1, 2, 1]), (.ifCond .eq 10, [2, 1])], none)
noncomputable def bl_X8_odds_1 : am_B := (11, [(.iload_n 2, []), (.invokestatic 286, [161, 1, 0, 1]), (.ifCond .ne 5, [3, 2])], none)
noncomputable def bl_X8_odds_2 : am_B := (18, [(.iconst (-1), []), (.ireturn, [0])], none)
noncomputable def bl_X8_odds_3 : am_B := (20, [(.aload_n 0, []), (.invokevirtual 193, [158, 0, 8, 1]), (.ifCond .eq 6, [5, 4])], none)
noncomputable def bl_X8_odds_4 : am_B := (27, [(.bipush (-4), []), (.ireturn, [0])], none)
noncomputable def bl_X8_odds_5 : am_B := (30, [(.aload_n 0, []), (.aload_n 0, []), (.getfield 70, [8, 8, 2]), (.iload_n 1, []), (.iload_n 2, []), (.invokevirtual 289, [2, 2, 0, 2]), (.iload_n 2, []), (.invokestatic 292, [1, 1, 0, 2]), (.invokevirtual 273, [156, 2, 8, 1]), (.ireturn, [0])], none)
noncomputable def bk_X8_odds : List am_B := [bl_X8_odds_0, bl_X8_odds_1, bl_X8_odds_2, bl_X8_odds_3, bl_X8_odds_4, bl_X8_odds_5]
noncomputable def ck_X8_odds : List (List (Nat × List Nat)) := [[(1, []), (3, [325]), (1, []), (3, [728, 729, 730, 85]), (3, [])],
  [(1, []), (3, [847, 848, 80]), (3, [])],
  [(1, []), (1, [])],
  [(1, []), (3, [595, 597, 8, 80]), (3, [])],
  [(2, []), (1, [])],
  [(1, []), (1, []), (3, [330]), (1, []), (1, []), (3, [850, 851, 852, 88]), (1, []), (3, [877, 878, 88]), (3, [809, 811, 19, 80]), (1, [])]]
theorem ok_X8_odds : am_ck 137 bk_X8_odds ck_X8_odds = true := am_ckD (by decide +kernel)
theorem ml_X8_odds : am_ml 137 = 3 := by decide +kernel
theorem pn_X8_odds : plainName (am_y 137).cls = true := by decide +kernel
/-- PaceBorder.met(II)I: number 138, loop heads [] -/
noncomputable def bl_X8_met_0 : am_B := (0, [(.aload_n 0, []), (.getfield 33, [8, 3, 2]), (.iload_n 1, []), (.invokevirtual 246, [34, 1, 2, 1]), (.ifCond .eq 10, [2, 1])], none)
noncomputable def bl_X8_met_1 : am_B := (11, [(.iload_n 2, []), (.invokestatic 286, [161, 1, 0, 1]), (.ifCond .ne 5, [3, 2])], none)
noncomputable def bl_X8_met_2 : am_B := (18, [(.iconst (-1), []), (.ireturn, [0])], none)
noncomputable def bl_X8_met_3 : am_B := (20, [(.aload_n 0, []), (.invokevirtual 193, [158, 0, 8, 1]), (.ifCond .eq 6, [5, 4])], none)
noncomputable def bl_X8_met_4 : am_B := (27, [(.bipush (-4), []), (.ireturn, [0])], none)
noncomputable def bl_X8_met_5 : am_B := (30, [(.aload_n 0, []), (.aload_n 0, []), (.getfield 70, [8, 8, 2]), (.iload_n 1, []), (.iload_n 2, []), (.invokevirtual 295, [3, 2, 0, 2]), (.iload_n 2, []), (.invokestatic 292, [1, 1, 0, 2]), (.invokevirtual 273, [156, 2, 8, 1]), (.ireturn, [0])], none)
noncomputable def bk_X8_met : List am_B := [bl_X8_met_0, bl_X8_met_1, bl_X8_met_2, bl_X8_met_3, bl_X8_met_4, bl_X8_met_5]
noncomputable def ck_X8_met : List (List (Nat × List Nat)) := [[(1, []), (3, [325]), (1, []), (3, [728, 729, 730, 85]), (3, [])],
  [(1, []), (3, [847, 848, 80]), (3, [])],
  [(1, []), (1, [])],
  [(1, []), (3, [595, 597, 8, 80]), (3, [])],
  [(2, []), (1, [])],
  [(1, []), (1, []), (3, [330]), (1, []), (1, []), (3, [885, 886, 887, 88]), (1, []), (3, [877, 878, 88]), (3, [809, 811, 19, 80]), (1, [])]]
theorem ok_X8_met : am_ck 138 bk_X8_met ck_X8_met = true := am_ckD (by decide +kernel)
theorem ml_X8_met : am_ml 138 = 3 := by decide +kernel
theorem pn_X8_met : plainName (am_y 138).cls = true := by decide +kernel
/-- PaceBorder.hedge(II)I: number 139, loop heads [] -/
noncomputable def bl_X8_hedge_0 : am_B := (0, [(.aload_n 0, []), (.getfield 33, [8, 3, 2]), (.iload_n 1, []), (.invokevirtual 169, [33, 1, 2, 1]), (.ifCond .eq 10, [2, 1])], none)
noncomputable def bl_X8_hedge_1 : am_B := (11, [(.iload_n 2, []), (.invokestatic 286, [161, 1, 0, 1]), (.ifCond .ne 5, [3, 2])], none)
noncomputable def bl_X8_hedge_2 : am_B := (18, [(.iconst (-1), []), (.ireturn, [0])], none)
noncomputable def bl_X8_hedge_3 : am_B := (20, [(.aload_n 0, []), (.aload_n 0, []), (.getfield 70, [8, 8, 2]), (.iload_n 1, []), (.iload_n 2, []), (.invokevirtual 298, [4, 2, 0, 2]), (.iload_n 2, []), (.invokestatic 292, [1, 1, 0, 2]), (.invokevirtual 273, [156, 2, 8, 1]), (.ireturn, [0])], none)
noncomputable def bk_X8_hedge : List am_B := [bl_X8_hedge_0, bl_X8_hedge_1, bl_X8_hedge_2, bl_X8_hedge_3]
noncomputable def ck_X8_hedge : List (List (Nat × List Nat)) := [[(1, []), (3, [325]), (1, []), (3, [529, 530, 531, 85]), (3, [])],
  [(1, []), (3, [847, 848, 80]), (3, [])],
  [(1, []), (1, [])],
  [(1, []), (1, []), (3, [330]), (1, []), (1, []), (3, [893, 894, 895, 88]), (1, []), (3, [877, 878, 88]), (3, [809, 811, 19, 80]), (1, [])]]
theorem ok_X8_hedge : am_ck 139 bk_X8_hedge ck_X8_hedge = true := am_ckD (by decide +kernel)
theorem ml_X8_hedge : am_ml 139 = 3 := by decide +kernel
theorem pn_X8_hedge : plainName (am_y 139).cls = true := by decide +kernel
/-- PaceBorder.game(II)I: number 140, loop heads [] -/
noncomputable def bl_X8_game_0 : am_B := (0, [(.iload_n 1, []), (.iload_n 2, []), (.invokestatic 301, [162, 2, 0, 1]), (.ifCond .ne 5, [2, 1])], none)
noncomputable def bl_X8_game_1 : am_B := (8, [(.iconst (-1), []), (.ireturn, [0])], none)
noncomputable def bl_X8_game_2 : am_B := (10, [(.aload_n 0, []), (.invokevirtual 193, [158, 0, 8, 1]), (.ifCond .eq 6, [4, 3])], none)
noncomputable def bl_X8_game_3 : am_B := (17, [(.bipush (-4), []), (.ireturn, [0])], none)
noncomputable def bl_X8_game_4 : am_B := (20, [(.aload_n 0, []), (.getfield 77, [8, 9, 2]), (.iload_n 1, []), (.iload_n 2, []), (.invokevirtual 304, [96, 2, 7, 0]), (.aload_n 0, []), (.aload_n 0, []), (.getfield 77, [8, 9, 2]), (.iconst 0, []), (.aload_n 0, []), (.getfield 40, [8, 4, 2]), (.getfield 179, [1, 1, 0]), (.invokevirtual 306, [101, 2, 7, 1]), (.invokevirtual 118, [155, 1, 8, 1]), (.ireturn, [0])], none)
noncomputable def bk_X8_game : List am_B := [bl_X8_game_0, bl_X8_game_1, bl_X8_game_2, bl_X8_game_3, bl_X8_game_4]
noncomputable def ck_X8_game : List (List (Nat × List Nat)) := [[(1, []), (1, []), (3, [907, 908, 80]), (3, [])],
  [(1, []), (1, [])],
  [(1, []), (3, [595, 597, 8, 80]), (3, [])],
  [(2, []), (1, [])],
  [(1, []), (3, [331]), (1, []), (1, []), (3, [910, 911, 912, 89]), (1, []), (1, []), (3, [331]), (1, []), (1, []), (3, [326]), (3, [205]), (3, [938, 935, 936, 89]), (3, [416, 418, 1, 80]), (1, [])]]
theorem ok_X8_game : am_ck 140 bk_X8_game ck_X8_game = true := am_ckD (by decide +kernel)
theorem ml_X8_game : am_ml 140 = 3 := by decide +kernel
theorem pn_X8_game : plainName (am_y 140).cls = true := by decide +kernel
/-- PaceBorder.said(II)I: number 141, loop heads [] -/
noncomputable def bl_X8_said_0 : am_B := (0, [(.iload_n 1, []), (.iload_n 2, []), (.invokestatic 301, [162, 2, 0, 1]), (.ifCond .eq 7, [2, 1])], none)
noncomputable def bl_X8_said_1 : am_B := (8, [(.iload_n 1, []), (.ifCond .ne 5, [3, 2])], none)
noncomputable def bl_X8_said_2 : am_B := (12, [(.iconst (-1), []), (.ireturn, [0])], none)
noncomputable def bl_X8_said_3 : am_B := (14, [(.aload_n 0, []), (.invokevirtual 193, [158, 0, 8, 1]), (.ifCond .eq 6, [5, 4])], none)
noncomputable def bl_X8_said_4 : am_B := (21, [(.bipush (-4), []), (.ireturn, [0])], none)
noncomputable def bl_X8_said_5 : am_B := (24, [(.aload_n 0, []), (.getfield 77, [8, 9, 2]), (.iload_n 1, []), (.iload_n 2, []), (.invokevirtual 304, [96, 2, 7, 0]), (.aload_n 0, []), (.getfield 77, [8, 9, 2]), (.iconst 0, []), (.aload_n 0, []), (.getfield 40, [8, 4, 2]), (.getfield 179, [1, 1, 0]), (.invokevirtual 309, [102, 2, 7, 1]), (.ireturn, [0])], none)
noncomputable def bk_X8_said : List am_B := [bl_X8_said_0, bl_X8_said_1, bl_X8_said_2, bl_X8_said_3, bl_X8_said_4, bl_X8_said_5]
noncomputable def ck_X8_said : List (List (Nat × List Nat)) := [[(1, []), (1, []), (3, [907, 908, 80]), (3, [])],
  [(1, []), (3, [])],
  [(1, []), (1, [])],
  [(1, []), (3, [595, 597, 8, 80]), (3, [])],
  [(2, []), (1, [])],
  [(1, []), (3, [331]), (1, []), (1, []), (3, [910, 911, 912, 89]), (1, []), (3, [331]), (1, []), (1, []), (3, [326]), (3, [205]), (3, [943, 944, 945, 89]), (1, [])]]
theorem ok_X8_said : am_ck 141 bk_X8_said ck_X8_said = true := am_ckD (by decide +kernel)
theorem ml_X8_said : am_ml 141 = 3 := by decide +kernel
theorem pn_X8_said : plainName (am_y 141).cls = true := by decide +kernel
/-- PaceBorder.calm(II)I: number 142, loop heads [] -/
noncomputable def bl_X8_calm_0 : am_B := (0, [(.iload_n 1, []), (.iload_n 2, []), (.invokestatic 301, [162, 2, 0, 1]), (.ifCond .ne 5, [2, 1])], none)
noncomputable def bl_X8_calm_1 : am_B := (8, [(.iconst (-1), []), (.ireturn, [0])], none)
noncomputable def bl_X8_calm_2 : am_B := (10, [(.aload_n 0, []), (.invokevirtual 193, [158, 0, 8, 1]), (.ifCond .eq 6, [4, 3])], none)
noncomputable def bl_X8_calm_3 : am_B := (17, [(.bipush (-4), []), (.ireturn, [0])], none)
noncomputable def bl_X8_calm_4 : am_B := (20, [(.aload_n 0, []), (.getfield 77, [8, 9, 2]), (.iload_n 1, []), (.iload_n 2, []), (.invokevirtual 304, [96, 2, 7, 0]), (.aload_n 0, []), (.getfield 77, [8, 9, 2]), (.iload_n 1, []), (.invokevirtual 312, [104, 1, 7, 1]), (.ifCond .eq 7, [6, 5])], none)
noncomputable def bl_X8_calm_5 : am_B := (40, [(.iconst 1, []), (.goto 4, [7])], none)
noncomputable def bl_X8_calm_6 : am_B := (44, [(.iconst 0, [])], some 7)
noncomputable def bl_X8_calm_7 : am_B := (45, [(.ireturn, [0])], none)
noncomputable def bk_X8_calm : List am_B := [bl_X8_calm_0, bl_X8_calm_1, bl_X8_calm_2, bl_X8_calm_3, bl_X8_calm_4, bl_X8_calm_5, bl_X8_calm_6, bl_X8_calm_7]
noncomputable def ck_X8_calm : List (List (Nat × List Nat)) := [[(1, []), (1, []), (3, [907, 908, 80]), (3, [])],
  [(1, []), (1, [])],
  [(1, []), (3, [595, 597, 8, 80]), (3, [])],
  [(2, []), (1, [])],
  [(1, []), (3, [331]), (1, []), (1, []), (3, [910, 911, 912, 89]), (1, []), (3, [331]), (1, []), (3, [951, 952, 953, 89]), (3, [])],
  [(1, []), (3, [])],
  [(1, [])],
  [(1, [])]]
theorem ok_X8_calm : am_ck 142 bk_X8_calm ck_X8_calm = true := am_ckD (by decide +kernel)
theorem ml_X8_calm : am_ml 142 = 3 := by decide +kernel
theorem pn_X8_calm : plainName (am_y 142).cls = true := by decide +kernel
/-- PaceBorder.law(II)I: number 143, loop heads [] -/
noncomputable def bl_X8_law_0 : am_B := (0, [(.aload_n 0, []), (.getfield 33, [8, 3, 2]), (.iload_n 1, []), (.invokevirtual 169, [33, 1, 2, 1]), (.ifCond .eq 13, [3, 1])], none)
noncomputable def bl_X8_law_1 : am_B := (11, [(.iload_n 2, []), (.ifCond .lt 9, [3, 2])], none)
noncomputable def bl_X8_law_2 : am_B := (15, [(.iload_n 2, []), (.bipush 40, []), (.if_icmp .le 5, [4, 3])], none)
noncomputable def bl_X8_law_3 : am_B := (21, [(.iconst (-1), []), (.ireturn, [0])], none)
noncomputable def bl_X8_law_4 : am_B := (23, [(.iload_n 2, []), (.aload_n 0, []), (.getfield 40, [8, 4, 2]), (.getfield 183, [1, 0, 0]), (.if_icmp .le 6, [6, 5])], none)
noncomputable def bl_X8_law_5 : am_B := (34, [(.bipush (-4), []), (.ireturn, [0])], none)
noncomputable def bl_X8_law_6 : am_B := (37, [(.aload_n 0, []), (.getfield 40, [8, 4, 2]), (.iload_n 2, []), (.invokevirtual 210, [21, 1, 1, 1]), (.istore_n 3, []), (.aload_n 0, []), (.getfield 33, [8, 3, 2]), (.iload_n 1, []), (.iconst 5, []), (.invokevirtual 175, [37, 2, 2, 1]), (.ifCond .eq 13, [9, 7])], none)
noncomputable def bl_X8_law_7 : am_B := (58, [(.iload_n 1, []), (.iload_n 3, []), (.invokestatic 180, [40, 2, 0, 1]), (.ifCond .eq 5, [9, 8])], none)
noncomputable def bl_X8_law_8 : am_B := (66, [(.iconst 3, []), (.ireturn, [0])], none)
noncomputable def bl_X8_law_9 : am_B := (68, [(.iconst 1, []), (.iload_n 1, []), (.iload_n 3, []), (.invokestatic 315, [39, 2, 0, 1]), (.ishl, []), (.ireturn, [0])], none)
noncomputable def bk_X8_law : List am_B := [bl_X8_law_0, bl_X8_law_1, bl_X8_law_2, bl_X8_law_3, bl_X8_law_4, bl_X8_law_5, bl_X8_law_6, bl_X8_law_7, bl_X8_law_8, bl_X8_law_9]
noncomputable def ck_X8_law : List (List (Nat × List Nat)) := [[(1, []), (3, [325]), (1, []), (3, [529, 530, 531, 85]), (3, [])],
  [(1, []), (3, [])],
  [(1, []), (2, []), (3, [])],
  [(1, []), (1, [])],
  [(1, []), (1, []), (3, [326]), (3, [199]), (3, [])],
  [(2, []), (1, [])],
  [(1, []), (3, [326]), (1, []), (3, [653, 561, 562, 86]), (1, []), (1, []), (3, [325]), (1, []), (1, []), (3, [569, 570, 571, 85]), (3, [])],
  [(1, []), (1, []), (3, [574, 575, 85]), (3, [])],
  [(1, []), (1, [])],
  [(1, []), (1, []), (1, []), (3, [546, 547, 85]), (1, []), (1, [])]]
theorem ok_X8_law : am_ck 143 bk_X8_law ck_X8_law = true := am_ckD (by decide +kernel)
theorem ml_X8_law : am_ml 143 = 4 := by decide +kernel
theorem pn_X8_law : plainName (am_y 143).cls = true := by decide +kernel
/-- PaceBorder.books(I)I: number 144, loop heads [] -/
noncomputable def bl_X8_books_0 : am_B := (0, [(.aload_n 0, []), (.getfield 14, [8, 0, 2]), (.iload_n 1, []), (.invokevirtual 95, [81, 1, 6, 1]), (.ifCond .ne 5, [2, 1])], none)
noncomputable def bl_X8_books_1 : am_B := (11, [(.iconst (-1), []), (.ireturn, [0])], none)
noncomputable def bl_X8_books_2 : am_B := (13, [(.aload_n 0, []), (.invokevirtual 193, [158, 0, 8, 1]), (.ifCond .eq 6, [4, 3])], none)
noncomputable def bl_X8_books_3 : am_B := (20, [(.bipush (-4), []), (.ireturn, [0])], none)
noncomputable def bl_X8_books_4 : am_B := (23, [(.aload_n 0, []), (.getfield 14, [8, 0, 2]), (.iload_n 1, []), (.invokevirtual 121, [82, 1, 6, 1]), (.ifCond .ne 9, [6, 5])], none)
noncomputable def bl_X8_books_5 : am_B := (34, [(.aload_n 0, []), (.iconst 1, []), (.invokevirtual 99, [154, 1, 8, 1]), (.ireturn, [0])], none)
noncomputable def bl_X8_books_6 : am_B := (40, [(.aload_n 0, []), (.getfield 14, [8, 0, 2]), (.iload_n 1, []), (.invokevirtual 136, [83, 1, 6, 1]), (.iconst 3, []), (.irem, []), (.ifCond .eq 9, [8, 7])], none)
noncomputable def bl_X8_books_7 : am_B := (53, [(.aload_n 0, []), (.iconst 5, []), (.invokevirtual 99, [154, 1, 8, 1]), (.ireturn, [0])], none)
noncomputable def bl_X8_books_8 : am_B := (59, [(.aload_n 0, []), (.getfield 84, [8, 10, 2]), (.aload_n 0, []), (.getfield 14, [8, 0, 2]), (.iload_n 1, []), (.invokevirtual 318, [45, 2, 3, 1]), (.ifCond .ne 9, [10, 9])], none)
noncomputable def bl_X8_books_9 : am_B := (74, [(.aload_n 0, []), (.iconst 3, []), (.invokevirtual 99, [154, 1, 8, 1]), (.ireturn, [0])], none)
noncomputable def bl_X8_books_10 : am_B := (80, [(.aload_n 0, []), (.getfield 84, [8, 10, 2]), (.aload_n 0, []), (.getfield 14, [8, 0, 2]), (.iload_n 1, []), (.invokevirtual 322, [46, 2, 3, 1]), (.ireturn, [0])], none)
noncomputable def bk_X8_books : List am_B := [bl_X8_books_0, bl_X8_books_1, bl_X8_books_2, bl_X8_books_3, bl_X8_books_4, bl_X8_books_5, bl_X8_books_6, bl_X8_books_7, bl_X8_books_8, bl_X8_books_9, bl_X8_books_10]
noncomputable def ck_X8_books : List (List (Nat × List Nat)) := [[(1, []), (3, [322]), (1, []), (3, [375, 376, 377, 81]), (3, [])],
  [(1, []), (1, [])],
  [(1, []), (3, [595, 597, 8, 80]), (3, [])],
  [(2, []), (1, [])],
  [(1, []), (3, [322]), (1, []), (3, [395, 396, 397, 81]), (3, [])],
  [(1, []), (1, []), (3, [379, 381, 0, 80]), (1, [])],
  [(1, []), (3, [322]), (1, []), (3, [452, 400, 401, 81]), (1, []), (1, []), (3, [])],
  [(1, []), (1, []), (3, [379, 381, 0, 80]), (1, [])],
  [(1, []), (3, [332]), (1, []), (3, [322]), (1, []), (3, [964, 965, 966, 90]), (3, [])],
  [(1, []), (1, []), (3, [379, 381, 0, 80]), (1, [])],
  [(1, []), (3, [332]), (1, []), (3, [322]), (1, []), (3, [972, 973, 974, 90]), (1, [])]]
theorem ok_X8_books : am_ck 144 bk_X8_books ck_X8_books = true := am_ckD (by decide +kernel)
theorem ml_X8_books : am_ml 144 = 2 := by decide +kernel
theorem pn_X8_books : plainName (am_y 144).cls = true := by decide +kernel
/-- PaceBorder.kinds(I)I: number 145, loop heads [] -/
noncomputable def bl_X8_kinds_0 : am_B := (0, [(.aload_n 0, []), (.getfield 33, [8, 3, 2]), (.iload_n 1, []), (.invokevirtual 169, [33, 1, 2, 1]), (.ifCond .ne 5, [2, 1])], none)
noncomputable def bl_X8_kinds_1 : am_B := (11, [(.iconst (-1), []), (.ireturn, [0])], none)
noncomputable def bl_X8_kinds_2 : am_B := (13, [(.aload_n 0, []), (.getfield 84, [8, 10, 2]), (.iload_n 1, []), (.invokevirtual 325, [49, 1, 3, 1]), (.ireturn, [0])], none)
noncomputable def bk_X8_kinds : List am_B := [bl_X8_kinds_0, bl_X8_kinds_1, bl_X8_kinds_2]
noncomputable def ck_X8_kinds : List (List (Nat × List Nat)) := [[(1, []), (3, [325]), (1, []), (3, [529, 530, 531, 85]), (3, [])],
  [(1, []), (1, [])],
  [(1, []), (3, [332]), (1, []), (3, [993, 994, 995, 90]), (1, [])]]
theorem ok_X8_kinds : am_ck 145 bk_X8_kinds ck_X8_kinds = true := am_ckD (by decide +kernel)
theorem ml_X8_kinds : am_ml 145 = 2 := by decide +kernel
theorem pn_X8_kinds : plainName (am_y 145).cls = true := by decide +kernel
/-- PaceBorder.lots(II)I: number 146, loop heads [10] -/
noncomputable def bl_X8_lots_0 : am_B := (0, [(.iload_n 1, []), (.iconst 1, []), (.if_icmp .lt 23, [4, 1])], none)
noncomputable def bl_X8_lots_1 : am_B := (5, [(.iload_n 1, []), (.bipush 20, []), (.if_icmp .gt 17, [4, 2])], none)
noncomputable def bl_X8_lots_2 : am_B := (11, [(.iload_n 2, []), (.iconst 1, []), (.if_icmp .lt 12, [4, 3])], none)
noncomputable def bl_X8_lots_3 : am_B := (16, [(.iload_n 2, []), (.i2l, []), (.ldc2_w 328, [2147483647]), (.lcmp, []), (.ifCond .lt 5, [5, 4])], none)
noncomputable def bl_X8_lots_4 : am_B := (25, [(.iconst (-1), []), (.ireturn, [0])], none)
noncomputable def bl_X8_lots_5 : am_B := (27, [(.aload_n 0, []), (.invokevirtual 193, [158, 0, 8, 1]), (.ifCond .eq 6, [7, 6])], none)
noncomputable def bl_X8_lots_6 : am_B := (34, [(.bipush (-4), []), (.ireturn, [0])], none)
noncomputable def bl_X8_lots_7 : am_B := (37, [(.aload_n 0, []), (.getfield 40, [8, 4, 2]), (.getfield 183, [1, 0, 0]), (.iload_n 1, []), (.iadd, []), (.bipush 40, []), (.if_icmp .le 6, [9, 8])], none)
noncomputable def bl_X8_lots_8 : am_B := (51, [(.bipush (-2), []), (.ireturn, [0])], none)
noncomputable def bl_X8_lots_9 : am_B := (54, [(.iload_n 2, []), (.i2l, []), (.lstore_n 3, []), (.iconst 0, []), (.istore 5, [])], some 1010)
noncomputable def bl_X8_lots_10 : am_B := (60, [(.iload 5, []), (.iload_n 1, []), (.if_icmp .ge 46, [1012, 11])], none)
noncomputable def bl_X8_lots_11 : am_B := (66, [(.ldc2_w 330, [48271]), (.lload_n 3, []), (.lmul, []), (.ldc2_w 328, [2147483647]), (.lrem, []), (.lstore_n 3, []), (.aload_n 0, []), (.getfield 40, [8, 4, 2]), (.aload_n 0, []), (.getfield 33, [8, 3, 2]), (.lload_n 3, []), (.ldc2_w 332, [4]), (.lrem, []), (.l2i, []), (.lload_n 3, []), (.ldc2_w 334, [16]), (.ldiv, []), (.ldc2_w 332, [4]), (.lrem, []), (.l2i, []), (.invokevirtual 203, [17, 3, 1, 0]), (.iinc 5 1, []), (.goto (-46), [1010])], none)
noncomputable def bl_X8_lots_12 : am_B := (109, [(.aload_n 0, []), (.getfield 40, [8, 4, 2]), (.getfield 179, [1, 1, 0]), (.ireturn, [0])], none)
noncomputable def bk_X8_lots : List am_B := [bl_X8_lots_0, bl_X8_lots_1, bl_X8_lots_2, bl_X8_lots_3, bl_X8_lots_4, bl_X8_lots_5, bl_X8_lots_6, bl_X8_lots_7, bl_X8_lots_8, bl_X8_lots_9, bl_X8_lots_10, bl_X8_lots_11, bl_X8_lots_12]
noncomputable def ck_X8_lots : List (List (Nat × List Nat)) := [[(1, []), (1, []), (3, [])],
  [(1, []), (2, []), (3, [])],
  [(1, []), (1, []), (3, [])],
  [(1, []), (1, []), (3, [1007]), (1, []), (3, [])],
  [(1, []), (1, [])],
  [(1, []), (3, [595, 597, 8, 80]), (3, [])],
  [(2, []), (1, [])],
  [(1, []), (3, [326]), (3, [199]), (1, []), (1, []), (2, []), (3, [])],
  [(2, []), (1, [])],
  [(1, []), (1, []), (1, []), (1, []), (2, [])],
  [(2, []), (1, []), (3, [])],
  [(3, [1008]), (1, []), (1, []), (3, [1007]), (1, []), (1, []), (1, []), (3, [326]), (1, []), (3, [325]), (1, []), (3, [1009]), (1, []), (1, []), (1, []), (3, [1010]), (1, []), (3, [1009]), (1, []), (1, []), (3, [611, 612, 613, 86]), (3, []), (3, [])],
  [(1, []), (3, [326]), (3, [205]), (1, [])]]
theorem ok_X8_lots : am_ck 146 bk_X8_lots ck_X8_lots = true := am_ckD (by decide +kernel)
theorem ml_X8_lots : am_ml 146 = 6 := by decide +kernel
theorem pn_X8_lots : plainName (am_y 146).cls = true := by decide +kernel
/-- PaceBorder.asked()I: number 147, loop heads [] -/
noncomputable def bl_X8_asked_0 : am_B := (0, [(.aload_n 0, []), (.getfield 336, [8, 13, 0]), (.ireturn, [0])], none)
noncomputable def bk_X8_asked : List am_B := [bl_X8_asked_0]
noncomputable def ck_X8_asked : List (List (Nat × List Nat)) := [[(1, []), (3, [335]), (1, [])]]
theorem ok_X8_asked : am_ck 147 bk_X8_asked ck_X8_asked = true := am_ckD (by decide +kernel)
theorem ml_X8_asked : am_ml 147 = 1 := by decide +kernel
theorem pn_X8_asked : plainName (am_y 147).cls = true := by decide +kernel
/-- PaceBorder.upper()J: number 148, loop heads [] -/
noncomputable def bl_X8_upper_0 : am_B := (0, [(.aload_n 0, []), (.getfield 339, [8, 14, 1]), (.lreturn, [])], none)
noncomputable def bk_X8_upper : List am_B := [bl_X8_upper_0]
noncomputable def ck_X8_upper : List (List (Nat × List Nat)) := [[(1, []), (3, [336]), (1, [])]]
theorem ok_X8_upper : am_ck 148 bk_X8_upper ck_X8_upper = true := am_ckD (by decide +kernel)
theorem ml_X8_upper : am_ml 148 = 1 := by decide +kernel
theorem pn_X8_upper : plainName (am_y 148).cls = true := by decide +kernel
/-- PaceBorder.lower()J: number 149, loop heads [] -/
noncomputable def bl_X8_lower_0 : am_B := (0, [(.aload_n 0, []), (.getfield 91, [8, 15, 1]), (.lreturn, [])], none)
noncomputable def bk_X8_lower : List am_B := [bl_X8_lower_0]
noncomputable def ck_X8_lower : List (List (Nat × List Nat)) := [[(1, []), (3, [337]), (1, [])]]
theorem ok_X8_lower : am_ck 149 bk_X8_lower ck_X8_lower = true := am_ckD (by decide +kernel)
theorem ml_X8_lower : am_ml 149 = 1 := by decide +kernel
theorem pn_X8_lower : plainName (am_y 149).cls = true := by decide +kernel
/-- PaceBorder.count(I)I: number 150, loop heads [] -/
noncomputable def bl_X8_count_0 : am_B := (0, [(.iload_n 1, []), (.tableswitch 124 0 8 #[51, 59, 67, 76, 85, 94, 103, 111, 119], [10, 1, 2, 3, 4, 5, 6, 7, 8, 9])], none)
noncomputable def bl_X8_count_1 : am_B := (52, [(.aload_n 0, []), (.getfield 33, [8, 3, 2]), (.getfield 166, [2, 0, 0]), (.ireturn, [0])], none)
noncomputable def bl_X8_count_2 : am_B := (60, [(.aload_n 0, []), (.getfield 40, [8, 4, 2]), (.getfield 183, [1, 0, 0]), (.ireturn, [0])], none)
noncomputable def bl_X8_count_3 : am_B := (68, [(.aload_n 0, []), (.getfield 40, [8, 4, 2]), (.iconst 0, []), (.invokevirtual 197, [15, 1, 1, 1]), (.ireturn, [0])], none)
noncomputable def bl_X8_count_4 : am_B := (77, [(.aload_n 0, []), (.getfield 40, [8, 4, 2]), (.iconst 1, []), (.invokevirtual 197, [15, 1, 1, 1]), (.ireturn, [0])], none)
noncomputable def bl_X8_count_5 : am_B := (86, [(.aload_n 0, []), (.getfield 33, [8, 3, 2]), (.iconst 1, []), (.invokevirtual 342, [38, 1, 2, 1]), (.ireturn, [0])], none)
noncomputable def bl_X8_count_6 : am_B := (95, [(.aload_n 0, []), (.getfield 33, [8, 3, 2]), (.iconst 2, []), (.invokevirtual 342, [38, 1, 2, 1]), (.ireturn, [0])], none)
noncomputable def bl_X8_count_7 : am_B := (104, [(.aload_n 0, []), (.getfield 14, [8, 0, 2]), (.invokevirtual 345, [93, 0, 6, 1]), (.ireturn, [0])], none)
noncomputable def bl_X8_count_8 : am_B := (112, [(.aload_n 0, []), (.getfield 18, [8, 1, 2]), (.invokevirtual 345, [93, 0, 6, 1]), (.ireturn, [0])], none)
noncomputable def bl_X8_count_9 : am_B := (120, [(.aload_n 0, []), (.invokevirtual 349, [166, 0, 8, 1]), (.ireturn, [0])], none)
noncomputable def bl_X8_count_10 : am_B := (125, [(.iconst (-1), []), (.ireturn, [0])], none)
noncomputable def bk_X8_count : List am_B := [bl_X8_count_0, bl_X8_count_1, bl_X8_count_2, bl_X8_count_3, bl_X8_count_4, bl_X8_count_5, bl_X8_count_6, bl_X8_count_7, bl_X8_count_8, bl_X8_count_9, bl_X8_count_10]
noncomputable def ck_X8_count : List (List (Nat × List Nat)) := [[(1, []), (51, [])],
  [(1, []), (3, [325]), (3, [150]), (1, [])],
  [(1, []), (3, [326]), (3, [199]), (1, [])],
  [(1, []), (3, [326]), (1, []), (3, [599, 600, 601, 86]), (1, [])],
  [(1, []), (3, [326]), (1, []), (3, [599, 600, 601, 86]), (1, [])],
  [(1, []), (3, [325]), (1, []), (3, [1027, 1028, 1029, 85]), (1, [])],
  [(1, []), (3, [325]), (1, []), (3, [1027, 1028, 1029, 85]), (1, [])],
  [(1, []), (3, [322]), (3, [1032, 1033, 1034, 81]), (1, [])],
  [(1, []), (3, [323]), (3, [1032, 1033, 1034, 81]), (1, [])],
  [(1, []), (3, [1037, 1039, 32, 80]), (1, [])],
  [(1, []), (1, [])]]
theorem ok_X8_count : am_ck 150 bk_X8_count ck_X8_count = true := am_ckD (by decide +kernel)
theorem ml_X8_count : am_ml 150 = 2 := by decide +kernel
theorem pn_X8_count : plainName (am_y 150).cls = true := by decide +kernel
/-- PaceBorder.finding()I: number 151, loop heads [] -/
noncomputable def bl_X8_finding_0 : am_B := (0, [(.aload_n 0, []), (.getfield 352, [8, 12, 0]), (.ireturn, [0])], none)
noncomputable def bk_X8_finding : List am_B := [bl_X8_finding_0]
noncomputable def ck_X8_finding : List (List (Nat × List Nat)) := [[(1, []), (3, [334]), (1, [])]]
theorem ok_X8_finding : am_ck 151 bk_X8_finding ck_X8_finding = true := am_ckD (by decide +kernel)
theorem ml_X8_finding : am_ml 151 = 1 := by decide +kernel
theorem pn_X8_finding : plainName (am_y 151).cls = true := by decide +kernel
/-- PaceBorder.findings(I)I: number 152, loop heads [] -/
noncomputable def bl_X8_findings_0 : am_B := (0, [(.iload_n 1, []), (.iconst 1, []), (.if_icmp .lt 8, [2, 1])], none)
noncomputable def bl_X8_findings_1 : am_B := (5, [(.iload_n 1, []), (.iconst 5, []), (.if_icmp .le 5, [3, 2])], none)
noncomputable def bl_X8_findings_2 : am_B := (10, [(.iconst (-1), []), (.ireturn, [0])], none)
noncomputable def bl_X8_findings_3 : am_B := (12, [(.aload_n 0, []), (.getfield 88, [8, 11, 2]), (.iload_n 1, []), (.iaload, []), (.ireturn, [0])], none)
noncomputable def bk_X8_findings : List am_B := [bl_X8_findings_0, bl_X8_findings_1, bl_X8_findings_2, bl_X8_findings_3]
noncomputable def ck_X8_findings : List (List (Nat × List Nat)) := [[(1, []), (1, []), (3, [])],
  [(1, []), (1, []), (3, [])],
  [(1, []), (1, [])],
  [(1, []), (3, [333]), (1, []), (1, []), (1, [])]]
theorem ok_X8_findings : am_ck 152 bk_X8_findings ck_X8_findings = true := am_ckD (by decide +kernel)
theorem ml_X8_findings : am_ml 152 = 2 := by decide +kernel
theorem pn_X8_findings : plainName (am_y 152).cls = true := by decide +kernel
/-- PaceBorder.digest()J: number 153, loop heads [1, 4, 6, 10] -/
noncomputable def bl_X8_digest_0 : am_B := (0, [(.ldc2_w 355, [17]), (.lstore_n 1, []), (.iconst 0, []), (.istore_n 3, [])], some 1001)
noncomputable def bl_X8_digest_1 : am_B := (6, [(.iload_n 3, []), (.bipush 9, []), (.if_icmp .ge 22, [1003, 2])], none)
noncomputable def bl_X8_digest_2 : am_B := (12, [(.ldc2_w 357, [31]), (.lload_n 1, []), (.lmul, []), (.aload_n 0, []), (.iload_n 3, []), (.invokevirtual 359, [150, 1, 8, 1]), (.i2l, []), (.ladd, []), (.lstore_n 1, []), (.iinc 3 1, []), (.goto (-22), [1001])], none)
noncomputable def bl_X8_digest_3 : am_B := (31, [(.ldc2_w 357, [31]), (.lload_n 1, []), (.lmul, []), (.aload_n 0, []), (.getfield 40, [8, 4, 2]), (.getfield 179, [1, 1, 0]), (.i2l, []), (.ladd, []), (.lstore_n 1, []), (.iconst 0, []), (.istore_n 3, [])], some 1004)
noncomputable def bl_X8_digest_4 : am_B := (48, [(.iload_n 3, []), (.aload_n 0, []), (.getfield 33, [8, 3, 2]), (.getfield 166, [2, 0, 0]), (.if_icmp .ge 40, [1009, 5])], none)
noncomputable def bl_X8_digest_5 : am_B := (59, [(.iconst 0, []), (.istore 4, [])], some 1006)
noncomputable def bl_X8_digest_6 : am_B := (62, [(.iload 4, []), (.bipush 6, []), (.if_icmp .ge 24, [1008, 7])], none)
noncomputable def bl_X8_digest_7 : am_B := (69, [(.ldc2_w 357, [31]), (.lload_n 1, []), (.lmul, []), (.aload_n 0, []), (.iload_n 3, []), (.iload 4, []), (.invokevirtual 172, [165, 2, 8, 1]), (.i2l, []), (.ladd, []), (.lstore_n 1, []), (.iinc 4 1, []), (.goto (-25), [1006])], none)
noncomputable def bl_X8_digest_8 : am_B := (90, [(.iinc 3 1, []), (.goto (-45), [1004])], none)
noncomputable def bl_X8_digest_9 : am_B := (96, [(.iconst 0, []), (.istore_n 3, [])], some 1010)
noncomputable def bl_X8_digest_10 : am_B := (98, [(.iload_n 3, []), (.iconst 3, []), (.if_icmp .ge 23, [1012, 11])], none)
noncomputable def bl_X8_digest_11 : am_B := (103, [(.ldc2_w 357, [31]), (.lload_n 1, []), (.lmul, []), (.aload_n 0, []), (.getfield 48, [8, 6, 2]), (.iload_n 3, []), (.iaload, []), (.i2l, []), (.ladd, []), (.lstore_n 1, []), (.iinc 3 1, []), (.goto (-22), [1010])], none)
noncomputable def bl_X8_digest_12 : am_B := (123, [(.aload_n 0, []), (.getfield 18, [8, 1, 2]), (.aload_n 0, []), (.getfield 14, [8, 0, 2]), (.lload_n 1, []), (.invokevirtual 362, [94, 1, 6, 2]), (.invokevirtual 362, [94, 1, 6, 2]), (.lreturn, [])], none)
noncomputable def bk_X8_digest : List am_B := [bl_X8_digest_0, bl_X8_digest_1, bl_X8_digest_2, bl_X8_digest_3, bl_X8_digest_4, bl_X8_digest_5, bl_X8_digest_6, bl_X8_digest_7, bl_X8_digest_8, bl_X8_digest_9, bl_X8_digest_10, bl_X8_digest_11, bl_X8_digest_12]
noncomputable def ck_X8_digest : List (List (Nat × List Nat)) := [[(3, [1053]), (1, []), (1, []), (1, [])],
  [(1, []), (2, []), (3, [])],
  [(3, [1054]), (1, []), (1, []), (1, []), (1, []), (3, [1055, 1024, 1025, 80]), (1, []), (1, []), (1, []), (3, []), (3, [])],
  [(3, [1054]), (1, []), (1, []), (1, []), (3, [326]), (3, [205]), (1, []), (1, []), (1, []), (1, []), (1, [])],
  [(1, []), (1, []), (3, [325]), (3, [150]), (3, [])],
  [(1, []), (2, [])],
  [(2, []), (2, []), (3, [])],
  [(3, [1054]), (1, []), (1, []), (1, []), (1, []), (2, []), (3, [533, 535, 7, 80]), (1, []), (1, []), (1, []), (3, []), (3, [])],
  [(3, []), (3, [])],
  [(1, []), (1, [])],
  [(1, []), (1, []), (3, [])],
  [(3, [1054]), (1, []), (1, []), (1, []), (3, [328]), (1, []), (1, []), (1, []), (1, []), (1, []), (3, []), (3, [])],
  [(1, []), (3, [323]), (1, []), (3, [322]), (1, []), (3, [1056, 1057, 1058, 81]), (3, [1056, 1057, 1058, 81]), (1, [])]]
theorem ok_X8_digest : am_ck 153 bk_X8_digest ck_X8_digest = true := am_ckD (by decide +kernel)
theorem ml_X8_digest : am_ml 153 = 5 := by decide +kernel
theorem pn_X8_digest : plainName (am_y 153).cls = true := by decide +kernel
/-- PaceBorder.find(I)I: number 154, loop heads [] -/
noncomputable def bl_X8_find_0 : am_B := (0, [(.iload_n 1, []), (.iconst 1, []), (.if_icmp .lt 8, [2, 1])], none)
noncomputable def bl_X8_find_1 : am_B := (5, [(.iload_n 1, []), (.iconst 5, []), (.if_icmp .le 6, [3, 2])], none)
noncomputable def bl_X8_find_2 : am_B := (10, [(.bipush (-3), []), (.ireturn, [0])], none)
noncomputable def bl_X8_find_3 : am_B := (13, [(.aload_n 0, []), (.iload_n 1, []), (.putfield 352, [8, 12, 0, 0]), (.aload_n 0, []), (.getfield 88, [8, 11, 2]), (.iload_n 1, []), (.dup2, []), (.iaload, []), (.iconst 1, []), (.iadd, []), (.iastore, []), (.bipush (-3), []), (.ireturn, [0])], none)
noncomputable def bk_X8_find : List am_B := [bl_X8_find_0, bl_X8_find_1, bl_X8_find_2, bl_X8_find_3]
noncomputable def ck_X8_find : List (List (Nat × List Nat)) := [[(1, []), (1, []), (3, [])],
  [(1, []), (1, []), (3, [])],
  [(2, []), (1, [])],
  [(1, []), (1, []), (3, [334]), (1, []), (3, [333]), (1, []), (1, []), (1, []), (1, []), (1, []), (1, []), (2, []), (1, [])]]
theorem ok_X8_find : am_ck 154 bk_X8_find ck_X8_find = true := am_ckD (by decide +kernel)
theorem ml_X8_find : am_ml 154 = 2 := by decide +kernel
theorem pn_X8_find : plainName (am_y 154).cls = true := by decide +kernel
/-- PaceBorder.tell(I)I: number 155, loop heads [] -/
noncomputable def bl_X8_tell_0 : am_B := (0, [(.aload_n 0, []), (.iload_n 1, []), (.putfield 336, [8, 13, 0, 0]), (.iconst 1, []), (.ireturn, [0])], none)
noncomputable def bk_X8_tell : List am_B := [bl_X8_tell_0]
noncomputable def ck_X8_tell : List (List (Nat × List Nat)) := [[(1, []), (1, []), (3, [335]), (1, []), (1, [])]]
theorem ok_X8_tell : am_ck 155 bk_X8_tell ck_X8_tell = true := am_ckD (by decide +kernel)
theorem ml_X8_tell : am_ml 155 = 2 := by decide +kernel
theorem pn_X8_tell : plainName (am_y 155).cls = true := by decide +kernel
/-- PaceBorder.tellChance(JJ)I: number 156, loop heads [1] -/
noncomputable def bl_X8_tellChance_0 : am_B := (0, [(.aload_n 0, []), (.lload_n 1, []), (.putfield 339, [8, 14, 1, 0]), (.aload_n 0, []), (.lload_n 3, []), (.putfield 91, [8, 15, 1, 0])], some 1001)
noncomputable def bl_X8_tellChance_1 : am_B := (10, [(.aload_n 0, []), (.getfield 91, [8, 15, 1]), (.lconst 1, []), (.lcmp, []), (.ifCond .le 43, [1004, 2])], none)
noncomputable def bl_X8_tellChance_2 : am_B := (19, [(.aload_n 0, []), (.getfield 339, [8, 14, 1]), (.ldc2_w 366, [2]), (.lrem, []), (.lconst 0, []), (.lcmp, []), (.ifCond .ne 30, [1004, 3])], none)
noncomputable def bl_X8_tellChance_3 : am_B := (32, [(.aload_n 0, []), (.dup, []), (.getfield 339, [8, 14, 1]), (.ldc2_w 366, [2]), (.ldiv, []), (.putfield 339, [8, 14, 1, 0]), (.aload_n 0, []), (.dup, []), (.getfield 91, [8, 15, 1]), (.ldc2_w 366, [2]), (.ldiv, []), (.putfield 91, [8, 15, 1, 0]), (.goto (-46), [1001])], none)
noncomputable def bl_X8_tellChance_4 : am_B := (59, [(.iconst 1, []), (.ireturn, [0])], none)
noncomputable def bk_X8_tellChance : List am_B := [bl_X8_tellChance_0, bl_X8_tellChance_1, bl_X8_tellChance_2, bl_X8_tellChance_3, bl_X8_tellChance_4]
noncomputable def ck_X8_tellChance : List (List (Nat × List Nat)) := [[(1, []), (1, []), (3, [336]), (1, []), (1, []), (3, [337])],
  [(1, []), (3, [337]), (1, []), (1, []), (3, [])],
  [(1, []), (3, [336]), (3, [813]), (1, []), (1, []), (1, []), (3, [])],
  [(1, []), (1, []), (3, [336]), (3, [813]), (1, []), (3, [336]), (1, []), (1, []), (3, [337]), (3, [813]), (1, []), (3, [337]), (3, [])],
  [(1, []), (1, [])]]
theorem ok_X8_tellChance : am_ck 156 bk_X8_tellChance ck_X8_tellChance = true := am_ckD (by decide +kernel)
theorem ml_X8_tellChance : am_ml 156 = 5 := by decide +kernel
theorem pn_X8_tellChance : plainName (am_y 156).cls = true := by decide +kernel
/-- PaceBorder.lackingPlace(LPaceBorder$Shelf;II)I: number 157, loop heads [] -/
noncomputable def bl_X8_lackingPlace_0 : am_B := (0, [(.aload_n 0, []), (.iload_n 1, []), (.invokevirtual 121, [82, 1, 6, 1]), (.ifCond .ne 5, [2, 1])], none)
noncomputable def bl_X8_lackingPlace_1 : am_B := (8, [(.iconst 1, []), (.ireturn, [0])], none)
noncomputable def bl_X8_lackingPlace_2 : am_B := (10, [(.aload_n 0, []), (.iload_n 1, []), (.iload_n 2, []), (.invokevirtual 368, [84, 2, 6, 1]), (.ifCond .eq 7, [4, 3])], none)
noncomputable def bl_X8_lackingPlace_3 : am_B := (19, [(.iconst 0, []), (.goto 4, [5])], none)
noncomputable def bl_X8_lackingPlace_4 : am_B := (23, [(.iconst 2, [])], some 5)
noncomputable def bl_X8_lackingPlace_5 : am_B := (24, [(.ireturn, [0])], none)
noncomputable def bk_X8_lackingPlace : List am_B := [bl_X8_lackingPlace_0, bl_X8_lackingPlace_1, bl_X8_lackingPlace_2, bl_X8_lackingPlace_3, bl_X8_lackingPlace_4, bl_X8_lackingPlace_5]
noncomputable def ck_X8_lackingPlace : List (List (Nat × List Nat)) := [[(1, []), (1, []), (3, [395, 396, 397, 81]), (3, [])],
  [(1, []), (1, [])],
  [(1, []), (1, []), (1, []), (3, [403, 404, 405, 81]), (3, [])],
  [(1, []), (3, [])],
  [(1, [])],
  [(1, [])]]
theorem ok_X8_lackingPlace : am_ck 157 bk_X8_lackingPlace ck_X8_lackingPlace = true := am_ckD (by decide +kernel)
theorem ml_X8_lackingPlace : am_ml 157 = 3 := by decide +kernel
theorem pn_X8_lackingPlace : plainName (am_y 157).cls = true := by decide +kernel
/-- PaceBorder.hasNoLand()Z: number 158, loop heads [] -/
noncomputable def bl_X8_hasNoLand_0 : am_B := (0, [(.aload_n 0, []), (.getfield 33, [8, 3, 2]), (.getfield 166, [2, 0, 0]), (.ifCond .ne 7, [2, 1])], none)
noncomputable def bl_X8_hasNoLand_1 : am_B := (10, [(.iconst 1, []), (.goto 4, [3])], none)
noncomputable def bl_X8_hasNoLand_2 : am_B := (14, [(.iconst 0, [])], some 3)
noncomputable def bl_X8_hasNoLand_3 : am_B := (15, [(.ireturn, [1])], none)
noncomputable def bk_X8_hasNoLand : List am_B := [bl_X8_hasNoLand_0, bl_X8_hasNoLand_1, bl_X8_hasNoLand_2, bl_X8_hasNoLand_3]
noncomputable def ck_X8_hasNoLand : List (List (Nat × List Nat)) := [[(1, []), (3, [325]), (3, [150]), (3, [])],
  [(1, []), (3, [])],
  [(1, [])],
  [(1, [])]]
theorem ok_X8_hasNoLand : am_ck 158 bk_X8_hasNoLand ck_X8_hasNoLand = true := am_ckD (by decide +kernel)
theorem ml_X8_hasNoLand : am_ml 158 = 1 := by decide +kernel
theorem pn_X8_hasNoLand : plainName (am_y 158).cls = true := by decide +kernel
/-- PaceBorder.isCrown(I)Z: number 159, loop heads [] -/
noncomputable def bl_X8_isCrown_0 : am_B := (0, [(.iload_n 0, []), (.ifCond .lt 12, [3, 1])], none)
noncomputable def bl_X8_isCrown_1 : am_B := (4, [(.iload_n 0, []), (.iconst 2, []), (.if_icmp .ge 7, [3, 2])], none)
noncomputable def bl_X8_isCrown_2 : am_B := (9, [(.iconst 1, []), (.goto 4, [4])], none)
noncomputable def bl_X8_isCrown_3 : am_B := (13, [(.iconst 0, [])], some 4)
noncomputable def bl_X8_isCrown_4 : am_B := (14, [(.ireturn, [1])], none)
noncomputable def bk_X8_isCrown : List am_B := [bl_X8_isCrown_0, bl_X8_isCrown_1, bl_X8_isCrown_2, bl_X8_isCrown_3, bl_X8_isCrown_4]
noncomputable def ck_X8_isCrown : List (List (Nat × List Nat)) := [[(1, []), (3, [])],
  [(1, []), (1, []), (3, [])],
  [(1, []), (3, [])],
  [(1, [])],
  [(1, [])]]
theorem ok_X8_isCrown : am_ck 159 bk_X8_isCrown ck_X8_isCrown = true := am_ckD (by decide +kernel)
theorem ml_X8_isCrown : am_ml 159 = 1 := by decide +kernel
theorem pn_X8_isCrown : plainName (am_y 159).cls = true := by decide +kernel
/-- PaceBorder.isPlanLength(I)Z: number 160, loop heads [] -/
noncomputable def bl_X8_isPlanLength_0 : am_B := (0, [(.iload_n 0, []), (.ifCond .lt 13, [3, 1])], none)
noncomputable def bl_X8_isPlanLength_1 : am_B := (4, [(.iload_n 0, []), (.bipush 20, []), (.if_icmp .gt 7, [3, 2])], none)
noncomputable def bl_X8_isPlanLength_2 : am_B := (10, [(.iconst 1, []), (.goto 4, [4])], none)
noncomputable def bl_X8_isPlanLength_3 : am_B := (14, [(.iconst 0, [])], some 4)
noncomputable def bl_X8_isPlanLength_4 : am_B := (15, [(.ireturn, [1])], none)
noncomputable def bk_X8_isPlanLength : List am_B := [bl_X8_isPlanLength_0, bl_X8_isPlanLength_1, bl_X8_isPlanLength_2, bl_X8_isPlanLength_3, bl_X8_isPlanLength_4]
noncomputable def ck_X8_isPlanLength : List (List (Nat × List Nat)) := [[(1, []), (3, [])],
  [(1, []), (2, []), (3, [])],
  [(1, []), (3, [])],
  [(1, [])],
  [(1, [])]]
theorem ok_X8_isPlanLength : am_ck 160 bk_X8_isPlanLength ck_X8_isPlanLength = true := am_ckD (by decide +kernel)
theorem ml_X8_isPlanLength : am_ml 160 = 1 := by decide +kernel
theorem pn_X8_isPlanLength : plainName (am_y 160).cls = true := by decide +kernel
/-- PaceBorder.isChanceLength(I)Z: number 161, loop heads [] -/
noncomputable def bl_X8_isChanceLength_0 : am_B := (0, [(.iload_n 0, []), (.ifCond .lt 13, [3, 1])], none)
noncomputable def bl_X8_isChanceLength_1 : am_B := (4, [(.iload_n 0, []), (.bipush 6, []), (.if_icmp .gt 7, [3, 2])], none)
noncomputable def bl_X8_isChanceLength_2 : am_B := (10, [(.iconst 1, []), (.goto 4, [4])], none)
noncomputable def bl_X8_isChanceLength_3 : am_B := (14, [(.iconst 0, [])], some 4)
noncomputable def bl_X8_isChanceLength_4 : am_B := (15, [(.ireturn, [1])], none)
noncomputable def bk_X8_isChanceLength : List am_B := [bl_X8_isChanceLength_0, bl_X8_isChanceLength_1, bl_X8_isChanceLength_2, bl_X8_isChanceLength_3, bl_X8_isChanceLength_4]
noncomputable def ck_X8_isChanceLength : List (List (Nat × List Nat)) := [[(1, []), (3, [])],
  [(1, []), (2, []), (3, [])],
  [(1, []), (3, [])],
  [(1, [])],
  [(1, [])]]
theorem ok_X8_isChanceLength : am_ck 161 bk_X8_isChanceLength ck_X8_isChanceLength = true := am_ckD (by decide +kernel)
theorem ml_X8_isChanceLength : am_ml 161 = 1 := by decide +kernel
theorem pn_X8_isChanceLength : plainName (am_y 161).cls = true := by decide +kernel
/-- PaceBorder.isGame(II)Z: number 162, loop heads [] -/
noncomputable def bl_X8_isGame_0 : am_B := (0, [(.iload_n 0, []), (.ifCond .lt 22, [5, 1])], none)
noncomputable def bl_X8_isGame_1 : am_B := (4, [(.iload_n 0, []), (.iconst 4, []), (.if_icmp .gt 17, [5, 2])], none)
noncomputable def bl_X8_isGame_2 : am_B := (9, [(.iload_n 1, []), (.ifCond .lt 13, [5, 3])], none)
noncomputable def bl_X8_isGame_3 : am_B := (13, [(.iload_n 1, []), (.bipush 9, []), (.if_icmp .gt 7, [5, 4])], none)
noncomputable def bl_X8_isGame_4 : am_B := (19, [(.iconst 1, []), (.goto 4, [6])], none)
noncomputable def bl_X8_isGame_5 : am_B := (23, [(.iconst 0, [])], some 6)
noncomputable def bl_X8_isGame_6 : am_B := (24, [(.ireturn, [1])], none)
noncomputable def bk_X8_isGame : List am_B := [bl_X8_isGame_0, bl_X8_isGame_1, bl_X8_isGame_2, bl_X8_isGame_3, bl_X8_isGame_4, bl_X8_isGame_5, bl_X8_isGame_6]
noncomputable def ck_X8_isGame : List (List (Nat × List Nat)) := [[(1, []), (3, [])],
  [(1, []), (1, []), (3, [])],
  [(1, []), (3, [])],
  [(1, []), (2, []), (3, [])],
  [(1, []), (3, [])],
  [(1, [])],
  [(1, [])]]
theorem ok_X8_isGame : am_ck 162 bk_X8_isGame ck_X8_isGame = true := am_ckD (by decide +kernel)
theorem ml_X8_isGame : am_ml 162 = 2 := by decide +kernel
theorem pn_X8_isGame : plainName (am_y 162).cls = true := by decide +kernel
/-- PaceBorder.canGo(I)Z: number 163, loop heads [] -/
noncomputable def bl_X8_canGo_0 : am_B := (0, [(.aload_n 0, []), (.getfield 14, [8, 0, 2]), (.iload_n 1, []), (.iconst (-1), []), (.iconst 1, []), (.invokevirtual 224, [92, 3, 6, 1]), (.ifCond .eq 30, [3, 1])], none)
noncomputable def bl_X8_canGo_1 : am_B := (13, [(.aload_n 0, []), (.getfield 63, [8, 7, 2]), (.aload_n 0, []), (.getfield 14, [8, 0, 2]), (.iload_n 1, []), (.invokevirtual 227, [51, 2, 4, 1]), (.aload_n 0, []), (.getfield 14, [8, 0, 2]), (.iload_n 1, []), (.invokevirtual 136, [83, 1, 6, 1]), (.if_icmp .ne 7, [3, 2])], none)
noncomputable def bl_X8_canGo_2 : am_B := (36, [(.iconst 1, []), (.goto 4, [4])], none)
noncomputable def bl_X8_canGo_3 : am_B := (40, [(.iconst 0, [])], some 4)
noncomputable def bl_X8_canGo_4 : am_B := (41, [(.ireturn, [1])], none)
noncomputable def bk_X8_canGo : List am_B := [bl_X8_canGo_0, bl_X8_canGo_1, bl_X8_canGo_2, bl_X8_canGo_3, bl_X8_canGo_4]
noncomputable def ck_X8_canGo : List (List (Nat × List Nat)) := [[(1, []), (3, [322]), (1, []), (1, []), (1, []), (3, [679, 680, 681, 81]), (3, [])],
  [(1, []), (3, [329]), (1, []), (3, [322]), (1, []), (3, [683, 684, 685, 87]), (1, []), (3, [322]), (1, []), (3, [452, 400, 401, 81]), (3, [])],
  [(1, []), (3, [])],
  [(1, [])],
  [(1, [])]]
theorem ok_X8_canGo : am_ck 163 bk_X8_canGo ck_X8_canGo = true := am_ckD (by decide +kernel)
theorem ml_X8_canGo : am_ml 163 = 2 := by decide +kernel
theorem pn_X8_canGo : plainName (am_y 163).cls = true := by decide +kernel
/-- PaceBorder.layPlan(II)V: number 164, loop heads [1] -/
noncomputable def bl_X8_layPlan_0 : am_B := (0, [(.aload_n 0, []), (.getfield 14, [8, 0, 2]), (.iload_n 2, []), (.iload_n 1, []), (.invokevirtual 103, [86, 2, 6, 0]), (.aload_n 0, []), (.getfield 40, [8, 4, 2]), (.getfield 179, [1, 1, 0]), (.istore_n 3, []), (.iconst 0, []), (.istore 4, [])], some 1001)
noncomputable def bl_X8_layPlan_1 : am_B := (20, [(.iload 4, []), (.iload_n 1, []), (.if_icmp .ge 38, [1003, 2])], none)
noncomputable def bl_X8_layPlan_2 : am_B := (26, [(.aload_n 0, []), (.getfield 63, [8, 7, 2]), (.iload 4, []), (.iload_n 3, []), (.invokevirtual 371, [64, 2, 4, 1]), (.istore 5, []), (.aload_n 0, []), (.getfield 14, [8, 0, 2]), (.iload_n 2, []), (.iload 4, []), (.iload 5, []), (.invokevirtual 115, [89, 3, 6, 0]), (.iload_n 3, []), (.iload 5, []), (.iadd, []), (.istore_n 3, []), (.iinc 4 1, []), (.goto (-38), [1001])], none)
noncomputable def bl_X8_layPlan_3 : am_B := (61, [(.return_, [])], none)
noncomputable def bk_X8_layPlan : List am_B := [bl_X8_layPlan_0, bl_X8_layPlan_1, bl_X8_layPlan_2, bl_X8_layPlan_3]
noncomputable def ck_X8_layPlan : List (List (Nat × List Nat)) := [[(1, []), (3, [322]), (1, []), (1, []), (3, [383, 384, 385, 81]), (1, []), (3, [326]), (3, [205]), (1, []), (1, []), (2, [])],
  [(2, []), (1, []), (3, [])],
  [(1, []), (3, [329]), (2, []), (1, []), (3, [777, 778, 779, 87]), (2, []), (1, []), (3, [322]), (1, []), (2, []), (2, []), (3, [411, 412, 413, 81]), (1, []), (2, []), (1, []), (1, []), (3, []), (3, [])],
  [(1, [])]]
theorem ok_X8_layPlan : am_ck 164 bk_X8_layPlan ck_X8_layPlan = true := am_ckD (by decide +kernel)
theorem ml_X8_layPlan : am_ml 164 = 6 := by decide +kernel
theorem pn_X8_layPlan : plainName (am_y 164).cls = true := by decide +kernel
end
section
/-- PaceBorder.stripFact(II)I: number 165, loop heads [] -/
noncomputable def bl_X8_stripFact_0 : am_B := (0, [(.iload_n 2, []), (.tableswitch 85 0 4 #[35, 44, 53, 65, 75], [6, 1, 2, 3, 4, 5])], none)
noncomputable def bl_X8_stripFact_1 : am_B := (36, [(.aload_n 0, []), (.getfield 33, [8, 3, 2]), (.iload_n 1, []), (.invokevirtual 374, [35, 1, 2, 1]), (.ireturn, [0])], none)
noncomputable def bl_X8_stripFact_2 : am_B := (45, [(.aload_n 0, []), (.getfield 33, [8, 3, 2]), (.iload_n 1, []), (.invokevirtual 377, [36, 1, 2, 1]), (.ireturn, [0])], none)
noncomputable def bl_X8_stripFact_3 : am_B := (54, [(.iload_n 1, []), (.aload_n 0, []), (.getfield 40, [8, 4, 2]), (.getfield 179, [1, 1, 0]), (.invokestatic 315, [39, 2, 0, 1]), (.ireturn, [0])], none)
noncomputable def bl_X8_stripFact_4 : am_B := (66, [(.aload_n 0, []), (.getfield 40, [8, 4, 2]), (.iload_n 1, []), (.iconst 0, []), (.invokevirtual 213, [22, 2, 1, 1]), (.ireturn, [0])], none)
noncomputable def bl_X8_stripFact_5 : am_B := (76, [(.aload_n 0, []), (.getfield 40, [8, 4, 2]), (.iload_n 1, []), (.iconst 1, []), (.invokevirtual 213, [22, 2, 1, 1]), (.ireturn, [0])], none)
noncomputable def bl_X8_stripFact_6 : am_B := (86, [(.aload_n 0, []), (.getfield 40, [8, 4, 2]), (.iload_n 1, []), (.invokevirtual 380, [23, 1, 1, 1]), (.ireturn, [0])], none)
noncomputable def bk_X8_stripFact : List am_B := [bl_X8_stripFact_0, bl_X8_stripFact_1, bl_X8_stripFact_2, bl_X8_stripFact_3, bl_X8_stripFact_4, bl_X8_stripFact_5, bl_X8_stripFact_6]
noncomputable def ck_X8_stripFact : List (List (Nat × List Nat)) := [[(1, []), (35, [])],
  [(1, []), (3, [325]), (1, []), (3, [537, 538, 539, 85]), (1, [])],
  [(1, []), (3, [325]), (1, []), (3, [542, 543, 544, 85]), (1, [])],
  [(1, []), (1, []), (3, [326]), (3, [205]), (3, [546, 547, 85]), (1, [])],
  [(1, []), (3, [326]), (1, []), (1, []), (3, [549, 550, 551, 86]), (1, [])],
  [(1, []), (3, [326]), (1, []), (1, []), (3, [549, 550, 551, 86]), (1, [])],
  [(1, []), (3, [326]), (1, []), (3, [556, 557, 558, 86]), (1, [])]]
theorem ok_X8_stripFact : am_ck 165 bk_X8_stripFact ck_X8_stripFact = true := am_ckD (by decide +kernel)
theorem ml_X8_stripFact : am_ml 165 = 3 := by decide +kernel
theorem pn_X8_stripFact : plainName (am_y 165).cls = true := by decide +kernel
/-- PaceBorder.keptLands()I: number 166, loop heads [1] -/
noncomputable def bl_X8_keptLands_0 : am_B := (0, [(.iconst 0, []), (.istore_n 1, []), (.iconst 0, []), (.istore_n 2, [])], some 1001)
noncomputable def bl_X8_keptLands_1 : am_B := (4, [(.iload_n 2, []), (.iconst 3, []), (.if_icmp .ge 22, [1005, 2])], none)
noncomputable def bl_X8_keptLands_2 : am_B := (9, [(.aload_n 0, []), (.getfield 48, [8, 6, 2]), (.iload_n 2, []), (.iaload, []), (.iconst (-1), []), (.if_icmp .eq 6, [4, 3])], none)
noncomputable def bl_X8_keptLands_3 : am_B := (19, [(.iinc 1 1, [])], some 4)
noncomputable def bl_X8_keptLands_4 : am_B := (22, [(.iinc 2 1, []), (.goto (-21), [1001])], none)
noncomputable def bl_X8_keptLands_5 : am_B := (28, [(.iload_n 1, []), (.ireturn, [0])], none)
noncomputable def bk_X8_keptLands : List am_B := [bl_X8_keptLands_0, bl_X8_keptLands_1, bl_X8_keptLands_2, bl_X8_keptLands_3, bl_X8_keptLands_4, bl_X8_keptLands_5]
noncomputable def ck_X8_keptLands : List (List (Nat × List Nat)) := [[(1, []), (1, []), (1, []), (1, [])],
  [(1, []), (1, []), (3, [])],
  [(1, []), (3, [328]), (1, []), (1, []), (1, []), (3, [])],
  [(3, [])],
  [(3, []), (3, [])],
  [(1, []), (1, [])]]
theorem ok_X8_keptLands : am_ck 166 bk_X8_keptLands ck_X8_keptLands = true := am_ckD (by decide +kernel)
theorem ml_X8_keptLands : am_ml 166 = 3 := by decide +kernel
theorem pn_X8_keptLands : plainName (am_y 166).cls = true := by decide +kernel
end
