/-- PaceBorderModel.<init>()V: number 167, loop heads [1] -/
noncomputable def bl_X9_init_0 : am_B := (0, [(.aload_n 0, []), (.invokespecial 1, [1000000]), (.aload_n 0, []), (.sipush 605, []), (.newarray .int, [10]), (.putfield 7, [9, 0, 2, 1]), (.aload_n 0, []), (.bipush 12, []), (.newarray .int, [10]), (.putfield 13, [9, 2, 2, 1]), (.aload_n 0, []), (.bipush 12, []), (.newarray .int, [10]), (.putfield 16, [9, 3, 2, 1]), (.aload_n 0, []), (.bipush 6, []), (.newarray .int, [10]), (.dup, []), (.iconst 0, []), (.iconst (-1), []), (.iastore, []), (.dup, []), (.iconst 1, []), (.iconst (-1), []), (.iastore, []), (.dup, []), (.iconst 2, []), (.iconst (-1), []), (.iastore, []), (.dup, []), (.iconst 3, []), (.iconst (-1), []), (.iastore, []), (.dup, []), (.iconst 4, []), (.iconst (-1), []), (.iastore, []), (.dup, []), (.iconst 5, []), (.iconst (-1), []), (.iastore, []), (.putfield 19, [9, 4, 2, 1]), (.aload_n 0, []), (.sipush 240, []), (.newarray .int, [10]), (.putfield 22, [9, 5, 2, 1]), (.aload_n 0, []), (.iconst 4, []), (.newarray .int, [10]), (.dup, []), (.iconst 0, []), (.iconst (-1), []), (.iastore, []), (.dup, []), (.iconst 1, []), (.iconst (-1), []), (.iastore, []), (.dup, []), (.iconst 2, []), (.iconst (-1), []), (.iastore, []), (.dup, []), (.iconst 3, []), (.iconst (-1), []), (.iastore, []), (.putfield 25, [9, 6, 2, 1]), (.aload_n 0, []), (.sipush 240, []), (.newarray .int, [10]), (.putfield 28, [9, 7, 2, 1]), (.aload_n 0, []), (.lconst 1, []), (.putfield 31, [9, 10, 1, 0]), (.aload_n 0, []), (.bipush 6, []), (.newarray .int, [10]), (.putfield 35, [9, 12, 2, 1]), (.aload_n 0, []), (.bipush 24, []), (.newarray .int, [10]), (.putfield 38, [9, 16, 2, 1]), (.aload_n 0, []), (.iconst 3, []), (.newarray .int, [10]), (.putfield 41, [9, 18, 2, 1]), (.aload_n 0, []), (.sipush 273, []), (.newarray .int, [10]), (.putfield 44, [9, 21, 2, 1]), (.aload_n 0, []), (.sipush 273, []), (.newarray .long, [11]), (.putfield 47, [9, 24, 2, 1]), (.aload_n 0, []), (.bipush 13, []), (.newarray .long, [11]), (.putfield 51, [9, 25, 2, 1]), (.aload_n 0, []), (.bipush 13, []), (.newarray .long, [11]), (.putfield 54, [9, 26, 2, 1]), (.aload_n 0, []), (.bipush 65, []), (.newarray .int, [10]), (.putfield 57, [9, 28, 2, 1]), (.iconst 1, []), (.istore_n 1, [])], some 1001)
noncomputable def bl_X9_init_1 : am_B := (174, [(.iload_n 1, []), (.iconst 4, []), (.if_icmp .ge 21, [1003, 2])], none)
noncomputable def bl_X9_init_2 : am_B := (179, [(.aload_n 0, []), (.getfield 7, [9, 0, 2]), (.bipush 121, []), (.iload_n 1, []), (.imul, []), (.iconst 0, []), (.iadd, []), (.iconst (-1), []), (.iastore, []), (.iinc 1 1, []), (.goto (-20), [1001])], none)
noncomputable def bl_X9_init_3 : am_B := (197, [(.return_, [])], none)
noncomputable def bk_X9_init : List am_B := [bl_X9_init_0, bl_X9_init_1, bl_X9_init_2, bl_X9_init_3]
noncomputable def ck_X9_init : List (List (Nat × List Nat)) := [[(1, []), (3, [1066, 100, 101]), (1, []), (3, []), (2, []), (3, [1067]), (1, []), (2, []), (2, []), (3, [1069]), (1, []), (2, []), (2, []), (3, [1070]), (1, []), (2, []), (2, []), (1, []), (1, []), (1, []), (1, []), (1, []), (1, []), (1, []), (1, []), (1, []), (1, []), (1, []), (1, []), (1, []), (1, []), (1, []), (1, []), (1, []), (1, []), (1, []), (1, []), (1, []), (1, []), (1, []), (1, []), (3, [1071]), (1, []), (3, []), (2, []), (3, [1072]), (1, []), (1, []), (2, []), (1, []), (1, []), (1, []), (1, []), (1, []), (1, []), (1, []), (1, []), (1, []), (1, []), (1, []), (1, []), (1, []), (1, []), (1, []), (1, []), (3, [1073]), (1, []), (3, []), (2, []), (3, [1074]), (1, []), (1, []), (3, [1077]), (1, []), (2, []), (2, []), (3, [1079]), (1, []), (2, []), (2, []), (3, [1083]), (1, []), (1, []), (2, []), (3, [1085]), (1, []), (3, []), (2, []), (3, [1088]), (1, []), (3, []), (2, []), (3, [1091]), (1, []), (2, []), (2, []), (3, [1092]), (1, []), (2, []), (2, []), (3, [1093]), (1, []), (2, []), (2, []), (3, [1095]), (1, []), (1, [])],
  [(1, []), (1, []), (3, [])],
  [(1, []), (3, [1067]), (2, []), (1, []), (1, []), (1, []), (1, []), (1, []), (1, []), (3, []), (3, [])],
  [(1, [])]]
theorem ok_X9_init : am_ck 167 bk_X9_init ck_X9_init = true := am_ckD (by decide +kernel)
theorem ml_X9_init : am_ml 167 = 2 := by decide +kernel
theorem pn_X9_init : plainName (am_y 167).cls = true := by decide +kernel
/-- PaceBorderModel.in(JJJ)Z: number 168, loop heads [] -/
noncomputable def bl_X9_in_0 : am_B := (0, [(.lload_n 0, []), (.lload_n 2, []), (.lcmp, []), (.ifCond .lt 14, [3, 1])], none)
noncomputable def bl_X9_in_1 : am_B := (6, [(.lload_n 0, []), (.lload 4, []), (.lcmp, []), (.ifCond .gt 7, [3, 2])], none)
noncomputable def bl_X9_in_2 : am_B := (13, [(.iconst 1, []), (.goto 4, [4])], none)
noncomputable def bl_X9_in_3 : am_B := (17, [(.iconst 0, [])], some 4)
noncomputable def bl_X9_in_4 : am_B := (18, [(.ireturn, [1])], none)
noncomputable def bk_X9_in : List am_B := [bl_X9_in_0, bl_X9_in_1, bl_X9_in_2, bl_X9_in_3, bl_X9_in_4]
noncomputable def ck_X9_in : List (List (Nat × List Nat)) := [[(1, []), (1, []), (1, []), (3, [])],
  [(1, []), (2, []), (1, []), (3, [])],
  [(1, []), (3, [])],
  [(1, [])],
  [(1, [])]]
theorem ok_X9_in : am_ck 168 bk_X9_in ck_X9_in = true := am_ckD (by decide +kernel)
theorem ml_X9_in : am_ml 168 = 6 := by decide +kernel
theorem pn_X9_in : plainName (am_y 168).cls = true := by decide +kernel
/-- PaceBorderModel.has(II)Z: number 169, loop heads [] -/
noncomputable def bl_X9_has_0 : am_B := (0, [(.iload_n 0, []), (.iload_n 1, []), (.ishr, []), (.iconst 1, []), (.iand, []), (.iconst 1, []), (.if_icmp .ne 7, [2, 1])], none)
noncomputable def bl_X9_has_1 : am_B := (9, [(.iconst 1, []), (.goto 4, [3])], none)
noncomputable def bl_X9_has_2 : am_B := (13, [(.iconst 0, [])], some 3)
noncomputable def bl_X9_has_3 : am_B := (14, [(.ireturn, [1])], none)
noncomputable def bk_X9_has : List am_B := [bl_X9_has_0, bl_X9_has_1, bl_X9_has_2, bl_X9_has_3]
noncomputable def ck_X9_has : List (List (Nat × List Nat)) := [[(1, []), (1, []), (1, []), (1, []), (1, []), (1, []), (3, [])],
  [(1, []), (3, [])],
  [(1, [])],
  [(1, [])]]
theorem ok_X9_has : am_ck 169 bk_X9_has ck_X9_has = true := am_ckD (by decide +kernel)
theorem ml_X9_has : am_ml 169 = 2 := by decide +kernel
theorem pn_X9_has : plainName (am_y 169).cls = true := by decide +kernel
/-- PaceBorderModel.find(I)I: number 170, loop heads [] -/
noncomputable def bl_X9_find_0 : am_B := (0, [(.aload_n 0, []), (.iload_n 1, []), (.putfield 60, [9, 11, 0, 0]), (.aload_n 0, []), (.getfield 35, [9, 12, 2]), (.iload_n 1, []), (.dup2, []), (.iaload, []), (.iconst 1, []), (.iadd, []), (.iastore, []), (.bipush (-3), []), (.ireturn, [0])], none)
noncomputable def bk_X9_find : List am_B := [bl_X9_find_0]
noncomputable def ck_X9_find : List (List (Nat × List Nat)) := [[(1, []), (1, []), (3, [1078]), (1, []), (3, [1079]), (1, []), (1, []), (1, []), (1, []), (1, []), (1, []), (2, []), (1, [])]]
theorem ok_X9_find : am_ck 170 bk_X9_find ck_X9_find = true := am_ckD (by decide +kernel)
theorem ml_X9_find : am_ml 170 = 2 := by decide +kernel
theorem pn_X9_find : plainName (am_y 170).cls = true := by decide +kernel
/-- PaceBorderModel.tell(I)I: number 171, loop heads [] -/
noncomputable def bl_X9_tell_0 : am_B := (0, [(.aload_n 0, []), (.iload_n 1, []), (.putfield 64, [9, 8, 0, 0]), (.iconst 1, []), (.ireturn, [0])], none)
noncomputable def bk_X9_tell : List am_B := [bl_X9_tell_0]
noncomputable def ck_X9_tell : List (List (Nat × List Nat)) := [[(1, []), (1, []), (3, [1075]), (1, []), (1, [])]]
theorem ok_X9_tell : am_ck 171 bk_X9_tell ck_X9_tell = true := am_ckD (by decide +kernel)
theorem ml_X9_tell : am_ml 171 = 2 := by decide +kernel
theorem pn_X9_tell : plainName (am_y 171).cls = true := by decide +kernel
/-- PaceBorderModel.isRow(I)Z: number 172, loop heads [] -/
noncomputable def bl_X9_isRow_0 : am_B := (0, [(.iload_n 0, []), (.i2l, []), (.lconst 0, []), (.ldc2_w 67, [5]), (.invokestatic 69, [168, 3, 0, 1]), (.ireturn, [1])], none)
noncomputable def bk_X9_isRow : List am_B := [bl_X9_isRow_0]
noncomputable def ck_X9_isRow : List (List (Nat × List Nat)) := [[(1, []), (1, []), (1, []), (3, [1168]), (3, [1169, 1170, 91]), (1, [])]]
theorem ok_X9_isRow : am_ck 172 bk_X9_isRow ck_X9_isRow = true := am_ckD (by decide +kernel)
theorem ml_X9_isRow : am_ml 172 = 1 := by decide +kernel
theorem pn_X9_isRow : plainName (am_y 172).cls = true := by decide +kernel
/-- PaceBorderModel.isText(I)Z: number 173, loop heads [] -/
noncomputable def bl_X9_isText_0 : am_B := (0, [(.iload_n 0, []), (.i2l, []), (.lconst 0, []), (.ldc2_w 73, [3]), (.invokestatic 69, [168, 3, 0, 1]), (.ireturn, [1])], none)
noncomputable def bk_X9_isText : List am_B := [bl_X9_isText_0]
noncomputable def ck_X9_isText : List (List (Nat × List Nat)) := [[(1, []), (1, []), (1, []), (3, [1219]), (3, [1169, 1170, 91]), (1, [])]]
theorem ok_X9_isText : am_ck 173 bk_X9_isText ck_X9_isText = true := am_ckD (by decide +kernel)
theorem ml_X9_isText : am_ml 173 = 1 := by decide +kernel
theorem pn_X9_isText : plainName (am_y 173).cls = true := by decide +kernel
/-- PaceBorderModel.row(II)I: number 174, loop heads [] -/
noncomputable def bl_X9_row_0 : am_B := (0, [(.iload_n 1, []), (.invokestatic 75, [172, 1, 0, 1]), (.ifCond .eq 9, [2, 1])], none)
noncomputable def bl_X9_row_1 : am_B := (7, [(.iload_n 2, []), (.bipush 40, []), (.if_icmp .le 5, [3, 2])], none)
noncomputable def bl_X9_row_2 : am_B := (13, [(.iconst (-1), []), (.ireturn, [0])], none)
noncomputable def bl_X9_row_3 : am_B := (15, [(.iload_n 2, []), (.ifCond .ge 9, [5, 4])], none)
noncomputable def bl_X9_row_4 : am_B := (19, [(.aload_n 0, []), (.iconst 5, []), (.invokevirtual 79, [170, 1, 9, 1]), (.ireturn, [0])], none)
noncomputable def bl_X9_row_5 : am_B := (25, [(.aload_n 0, []), (.iload_n 1, []), (.iload_n 2, []), (.invokevirtual 83, [175, 2, 9, 0]), (.iload_n 2, []), (.ireturn, [0])], none)
noncomputable def bk_X9_row : List am_B := [bl_X9_row_0, bl_X9_row_1, bl_X9_row_2, bl_X9_row_3, bl_X9_row_4, bl_X9_row_5]
noncomputable def ck_X9_row : List (List (Nat × List Nat)) := [[(1, []), (3, [1165, 1166, 91]), (3, [])],
  [(1, []), (2, []), (3, [])],
  [(1, []), (1, [])],
  [(1, []), (3, [])],
  [(1, []), (1, []), (3, [1172, 1174, 33, 91]), (1, [])],
  [(1, []), (1, []), (1, []), (3, [1176, 1178, 34, 91]), (1, []), (1, [])]]
theorem ok_X9_row : am_ck 174 bk_X9_row ck_X9_row = true := am_ckD (by decide +kernel)
theorem ml_X9_row : am_ml 174 = 3 := by decide +kernel
theorem pn_X9_row : plainName (am_y 174).cls = true := by decide +kernel
/-- PaceBorderModel.makeRow(II)V: number 175, loop heads [1] -/
noncomputable def bl_X9_makeRow_0 : am_B := (0, [(.aload_n 0, []), (.getfield 19, [9, 4, 2]), (.iload_n 1, []), (.iload_n 2, []), (.iastore, []), (.iconst 0, []), (.istore_n 3, [])], some 1001)
noncomputable def bl_X9_makeRow_1 : am_B := (9, [(.iload_n 3, []), (.bipush 40, []), (.if_icmp .ge 21, [1003, 2])], none)
noncomputable def bl_X9_makeRow_2 : am_B := (15, [(.aload_n 0, []), (.getfield 22, [9, 5, 2]), (.bipush 40, []), (.iload_n 1, []), (.imul, []), (.iload_n 3, []), (.iadd, []), (.iconst 0, []), (.iastore, []), (.iinc 3 1, []), (.goto (-21), [1001])], none)
noncomputable def bl_X9_makeRow_3 : am_B := (33, [(.return_, [])], none)
noncomputable def bk_X9_makeRow : List am_B := [bl_X9_makeRow_0, bl_X9_makeRow_1, bl_X9_makeRow_2, bl_X9_makeRow_3]
noncomputable def ck_X9_makeRow : List (List (Nat × List Nat)) := [[(1, []), (3, [1071]), (1, []), (1, []), (1, []), (1, []), (1, [])],
  [(1, []), (2, []), (3, [])],
  [(1, []), (3, [1072]), (2, []), (1, []), (1, []), (1, []), (1, []), (1, []), (1, []), (3, []), (3, [])],
  [(1, [])]]
theorem ok_X9_makeRow : am_ck 175 bk_X9_makeRow ck_X9_makeRow = true := am_ckD (by decide +kernel)
theorem ml_X9_makeRow : am_ml 175 = 4 := by decide +kernel
theorem pn_X9_makeRow : plainName (am_y 175).cls = true := by decide +kernel
/-- PaceBorderModel.refused(II)I: number 176, loop heads [] -/
noncomputable def bl_X9_refused_0 : am_B := (0, [(.iload_n 1, []), (.invokestatic 75, [172, 1, 0, 1]), (.ifCond .ne 7, [2, 1])], none)
noncomputable def bl_X9_refused_1 : am_B := (7, [(.iconst (-1), []), (.goto 47, [7])], none)
noncomputable def bl_X9_refused_2 : am_B := (11, [(.aload_n 0, []), (.getfield 19, [9, 4, 2]), (.iload_n 1, []), (.iaload, []), (.ifCond .ge 11, [4, 3])], none)
noncomputable def bl_X9_refused_3 : am_B := (20, [(.aload_n 0, []), (.iconst 1, []), (.invokevirtual 79, [170, 1, 9, 1]), (.goto 30, [7])], none)
noncomputable def bl_X9_refused_4 : am_B := (28, [(.iload_n 2, []), (.i2l, []), (.lconst 0, []), (.aload_n 0, []), (.getfield 19, [9, 4, 2]), (.iload_n 1, []), (.iaload, []), (.iconst 1, []), (.isub, []), (.i2l, []), (.invokestatic 69, [168, 3, 0, 1]), (.ifCond .eq 7, [6, 5])], none)
noncomputable def bl_X9_refused_5 : am_B := (46, [(.iconst 0, []), (.goto 8, [7])], none)
noncomputable def bl_X9_refused_6 : am_B := (50, [(.aload_n 0, []), (.iconst 2, []), (.invokevirtual 79, [170, 1, 9, 1])], some 7)
noncomputable def bl_X9_refused_7 : am_B := (55, [(.ireturn, [0])], none)
noncomputable def bk_X9_refused : List am_B := [bl_X9_refused_0, bl_X9_refused_1, bl_X9_refused_2, bl_X9_refused_3, bl_X9_refused_4, bl_X9_refused_5, bl_X9_refused_6, bl_X9_refused_7]
noncomputable def ck_X9_refused : List (List (Nat × List Nat)) := [[(1, []), (3, [1165, 1166, 91]), (3, [])],
  [(1, []), (3, [])],
  [(1, []), (3, [1071]), (1, []), (1, []), (3, [])],
  [(1, []), (1, []), (3, [1172, 1174, 33, 91]), (3, [])],
  [(1, []), (1, []), (1, []), (1, []), (3, [1071]), (1, []), (1, []), (1, []), (1, []), (1, []), (3, [1169, 1170, 91]), (3, [])],
  [(1, []), (3, [])],
  [(1, []), (1, []), (3, [1172, 1174, 33, 91])],
  [(1, [])]]
theorem ok_X9_refused : am_ck 176 bk_X9_refused ck_X9_refused = true := am_ckD (by decide +kernel)
theorem ml_X9_refused : am_ml 176 = 3 := by decide +kernel
theorem pn_X9_refused : plainName (am_y 176).cls = true := by decide +kernel
/-- PaceBorderModel.lay(III)I: number 177, loop heads [] -/
noncomputable def bl_X9_lay_0 : am_B := (0, [(.aload_n 0, []), (.iload_n 1, []), (.iload_n 2, []), (.invokevirtual 87, [176, 2, 9, 1]), (.istore 4, []), (.iload 4, []), (.ifCond .eq 6, [2, 1])], none)
noncomputable def bl_X9_lay_1 : am_B := (13, [(.iload 4, []), (.ireturn, [0])], none)
noncomputable def bl_X9_lay_2 : am_B := (16, [(.aload_n 0, []), (.getfield 22, [9, 5, 2]), (.bipush 40, []), (.iload_n 1, []), (.imul, []), (.iload_n 2, []), (.iadd, []), (.iaload, []), (.istore 5, []), (.aload_n 0, []), (.getfield 22, [9, 5, 2]), (.bipush 40, []), (.iload_n 1, []), (.imul, []), (.iload_n 2, []), (.iadd, []), (.iload_n 3, []), (.iastore, []), (.aload_n 0, []), (.iload 5, []), (.invokevirtual 91, [171, 1, 9, 1]), (.ireturn, [0])], none)
noncomputable def bk_X9_lay : List am_B := [bl_X9_lay_0, bl_X9_lay_1, bl_X9_lay_2]
noncomputable def ck_X9_lay : List (List (Nat × List Nat)) := [[(1, []), (1, []), (1, []), (3, [1184, 1186, 35, 91]), (2, []), (2, []), (3, [])],
  [(2, []), (1, [])],
  [(1, []), (3, [1072]), (2, []), (1, []), (1, []), (1, []), (1, []), (1, []), (2, []), (1, []), (3, [1072]), (2, []), (1, []), (1, []), (1, []), (1, []), (1, []), (1, []), (1, []), (2, []), (3, [1188, 1190, 36, 91]), (1, [])]]
theorem ok_X9_lay : am_ck 177 bk_X9_lay ck_X9_lay = true := am_ckD (by decide +kernel)
theorem ml_X9_lay : am_ml 177 = 6 := by decide +kernel
theorem pn_X9_lay : plainName (am_y 177).cls = true := by decide +kernel
/-- PaceBorderModel.at(II)I: number 178, loop heads [] -/
noncomputable def bl_X9_at_0 : am_B := (0, [(.aload_n 0, []), (.iload_n 1, []), (.iload_n 2, []), (.invokevirtual 87, [176, 2, 9, 1]), (.istore_n 3, []), (.iload_n 3, []), (.ifCond .eq 7, [2, 1])], none)
noncomputable def bl_X9_at_1 : am_B := (11, [(.iload_n 3, []), (.goto 18, [3])], none)
noncomputable def bl_X9_at_2 : am_B := (15, [(.aload_n 0, []), (.aload_n 0, []), (.getfield 22, [9, 5, 2]), (.bipush 40, []), (.iload_n 1, []), (.imul, []), (.iload_n 2, []), (.iadd, []), (.iaload, []), (.invokevirtual 91, [171, 1, 9, 1])], some 3)
noncomputable def bl_X9_at_3 : am_B := (30, [(.ireturn, [0])], none)
noncomputable def bk_X9_at : List am_B := [bl_X9_at_0, bl_X9_at_1, bl_X9_at_2, bl_X9_at_3]
noncomputable def ck_X9_at : List (List (Nat × List Nat)) := [[(1, []), (1, []), (1, []), (3, [1184, 1186, 35, 91]), (1, []), (1, []), (3, [])],
  [(1, []), (3, [])],
  [(1, []), (1, []), (3, [1072]), (2, []), (1, []), (1, []), (1, []), (1, []), (1, []), (3, [1188, 1190, 36, 91])],
  [(1, [])]]
theorem ok_X9_at : am_ck 178 bk_X9_at ck_X9_at = true := am_ckD (by decide +kernel)
theorem ml_X9_at : am_ml 178 = 4 := by decide +kernel
theorem pn_X9_at : plainName (am_y 178).cls = true := by decide +kernel
/-- PaceBorderModel.tear(I)I: number 179, loop heads [] -/
noncomputable def bl_X9_tear_0 : am_B := (0, [(.iload_n 1, []), (.invokestatic 75, [172, 1, 0, 1]), (.ifCond .ne 5, [2, 1])], none)
noncomputable def bl_X9_tear_1 : am_B := (7, [(.iconst (-1), []), (.ireturn, [0])], none)
noncomputable def bl_X9_tear_2 : am_B := (9, [(.aload_n 0, []), (.getfield 19, [9, 4, 2]), (.iload_n 1, []), (.iaload, []), (.ifCond .ge 9, [4, 3])], none)
noncomputable def bl_X9_tear_3 : am_B := (18, [(.aload_n 0, []), (.iconst 1, []), (.invokevirtual 79, [170, 1, 9, 1]), (.ireturn, [0])], none)
noncomputable def bl_X9_tear_4 : am_B := (24, [(.aload_n 0, []), (.getfield 19, [9, 4, 2]), (.iload_n 1, []), (.iconst (-1), []), (.iastore, []), (.iconst 1, []), (.ireturn, [0])], none)
noncomputable def bk_X9_tear : List am_B := [bl_X9_tear_0, bl_X9_tear_1, bl_X9_tear_2, bl_X9_tear_3, bl_X9_tear_4]
noncomputable def ck_X9_tear : List (List (Nat × List Nat)) := [[(1, []), (3, [1165, 1166, 91]), (3, [])],
  [(1, []), (1, [])],
  [(1, []), (3, [1071]), (1, []), (1, []), (3, [])],
  [(1, []), (1, []), (3, [1172, 1174, 33, 91]), (1, [])],
  [(1, []), (3, [1071]), (1, []), (1, []), (1, []), (1, []), (1, [])]]
theorem ok_X9_tear : am_ck 179 bk_X9_tear ck_X9_tear = true := am_ckD (by decide +kernel)
theorem ml_X9_tear : am_ml 179 = 2 := by decide +kernel
theorem pn_X9_tear : plainName (am_y 179).cls = true := by decide +kernel
/-- PaceBorderModel.isSpan(III)Z: number 180, loop heads [] -/
noncomputable def bl_X9_isSpan_0 : am_B := (0, [(.iload_n 2, []), (.ifCond .lt 23, [3, 1])], none)
noncomputable def bl_X9_isSpan_1 : am_B := (4, [(.iload_n 2, []), (.i2l, []), (.iload_n 3, []), (.i2l, []), (.ladd, []), (.aload_n 0, []), (.getfield 19, [9, 4, 2]), (.iload_n 1, []), (.iaload, []), (.i2l, []), (.lcmp, []), (.ifCond .gt 7, [3, 2])], none)
noncomputable def bl_X9_isSpan_2 : am_B := (20, [(.iconst 1, []), (.goto 4, [4])], none)
noncomputable def bl_X9_isSpan_3 : am_B := (24, [(.iconst 0, [])], some 4)
noncomputable def bl_X9_isSpan_4 : am_B := (25, [(.ireturn, [1])], none)
noncomputable def bk_X9_isSpan : List am_B := [bl_X9_isSpan_0, bl_X9_isSpan_1, bl_X9_isSpan_2, bl_X9_isSpan_3, bl_X9_isSpan_4]
noncomputable def ck_X9_isSpan : List (List (Nat × List Nat)) := [[(1, []), (3, [])],
  [(1, []), (1, []), (1, []), (1, []), (1, []), (1, []), (3, [1071]), (1, []), (1, []), (1, []), (1, []), (3, [])],
  [(1, []), (3, [])],
  [(1, [])],
  [(1, [])]]
theorem ok_X9_isSpan : am_ck 180 bk_X9_isSpan ck_X9_isSpan = true := am_ckD (by decide +kernel)
theorem ml_X9_isSpan : am_ml 180 = 4 := by decide +kernel
theorem pn_X9_isSpan : plainName (am_y 180).cls = true := by decide +kernel
/-- PaceBorderModel.copy(IIIII)I: number 181, loop heads [15] -/
noncomputable def bl_X9_copy_0 : am_B := (0, [(.iload_n 1, []), (.invokestatic 75, [172, 1, 0, 1]), (.ifCond .eq 10, [2, 1])], none)
noncomputable def bl_X9_copy_1 : am_B := (7, [(.iload_n 3, []), (.invokestatic 75, [172, 1, 0, 1]), (.ifCond .ne 5, [3, 2])], none)
noncomputable def bl_X9_copy_2 : am_B := (14, [(.iconst (-1), []), (.ireturn, [0])], none)
noncomputable def bl_X9_copy_3 : am_B := (16, [(.iload 5, []), (.ifCond .ge 9, [5, 4])], none)
noncomputable def bl_X9_copy_4 : am_B := (21, [(.aload_n 0, []), (.iconst 5, []), (.invokevirtual 79, [170, 1, 9, 1]), (.ireturn, [0])], none)
noncomputable def bl_X9_copy_5 : am_B := (27, [(.aload_n 0, []), (.getfield 19, [9, 4, 2]), (.iload_n 1, []), (.iaload, []), (.ifCond .lt 12, [7, 6])], none)
noncomputable def bl_X9_copy_6 : am_B := (36, [(.aload_n 0, []), (.getfield 19, [9, 4, 2]), (.iload_n 3, []), (.iaload, []), (.ifCond .ge 9, [8, 7])], none)
noncomputable def bl_X9_copy_7 : am_B := (45, [(.aload_n 0, []), (.iconst 1, []), (.invokevirtual 79, [170, 1, 9, 1]), (.ireturn, [0])], none)
noncomputable def bl_X9_copy_8 : am_B := (51, [(.aload_n 0, []), (.iload_n 1, []), (.iload_n 2, []), (.iload 5, []), (.invokevirtual 94, [180, 3, 9, 1]), (.ifCond .eq 15, [10, 9])], none)
noncomputable def bl_X9_copy_9 : am_B := (62, [(.aload_n 0, []), (.iload_n 3, []), (.iload 4, []), (.iload 5, []), (.invokevirtual 94, [180, 3, 9, 1]), (.ifCond .ne 9, [11, 10])], none)
noncomputable def bl_X9_copy_10 : am_B := (74, [(.aload_n 0, []), (.iconst 2, []), (.invokevirtual 79, [170, 1, 9, 1]), (.ireturn, [0])], none)
noncomputable def bl_X9_copy_11 : am_B := (80, [(.iload_n 2, []), (.iload 4, []), (.if_icmp .ge 7, [13, 12])], none)
noncomputable def bl_X9_copy_12 : am_B := (86, [(.iconst 1, []), (.goto 4, [14])], none)
noncomputable def bl_X9_copy_13 : am_B := (90, [(.iconst 0, [])], some 14)
noncomputable def bl_X9_copy_14 : am_B := (91, [(.istore 6, []), (.iconst 0, []), (.istore 7, [])], some 1015)
noncomputable def bl_X9_copy_15 : am_B := (96, [(.iload 7, []), (.iload 5, []), (.if_icmp .ge 57, [1020, 16])], none)
noncomputable def bl_X9_copy_16 : am_B := (103, [(.iload 6, []), (.ifCond .eq 13, [18, 17])], none)
noncomputable def bl_X9_copy_17 : am_B := (108, [(.iload 5, []), (.iconst 1, []), (.isub, []), (.iload 7, []), (.isub, []), (.goto 5, [19])], none)
noncomputable def bl_X9_copy_18 : am_B := (118, [(.iload 7, [])], some 19)
noncomputable def bl_X9_copy_19 : am_B := (120, [(.istore 8, []), (.aload_n 0, []), (.getfield 22, [9, 5, 2]), (.bipush 40, []), (.iload_n 3, []), (.imul, []), (.iload 4, []), (.iadd, []), (.iload 8, []), (.iadd, []), (.aload_n 0, []), (.getfield 22, [9, 5, 2]), (.bipush 40, []), (.iload_n 1, []), (.imul, []), (.iload_n 2, []), (.iadd, []), (.iload 8, []), (.iadd, []), (.iaload, []), (.iastore, []), (.iinc 7 1, []), (.goto (-58), [1015])], none)
noncomputable def bl_X9_copy_20 : am_B := (157, [(.iconst 1, []), (.ireturn, [0])], none)
noncomputable def bk_X9_copy : List am_B := [bl_X9_copy_0, bl_X9_copy_1, bl_X9_copy_2, bl_X9_copy_3, bl_X9_copy_4, bl_X9_copy_5, bl_X9_copy_6, bl_X9_copy_7, bl_X9_copy_8, bl_X9_copy_9, bl_X9_copy_10, bl_X9_copy_11, bl_X9_copy_12, bl_X9_copy_13, bl_X9_copy_14, bl_X9_copy_15, bl_X9_copy_16, bl_X9_copy_17, bl_X9_copy_18, bl_X9_copy_19, bl_X9_copy_20]
noncomputable def ck_X9_copy : List (List (Nat × List Nat)) := [[(1, []), (3, [1165, 1166, 91]), (3, [])],
  [(1, []), (3, [1165, 1166, 91]), (3, [])],
  [(1, []), (1, [])],
  [(2, []), (3, [])],
  [(1, []), (1, []), (3, [1172, 1174, 33, 91]), (1, [])],
  [(1, []), (3, [1071]), (1, []), (1, []), (3, [])],
  [(1, []), (3, [1071]), (1, []), (1, []), (3, [])],
  [(1, []), (1, []), (3, [1172, 1174, 33, 91]), (1, [])],
  [(1, []), (1, []), (1, []), (2, []), (3, [1204, 1206, 37, 91]), (3, [])],
  [(1, []), (1, []), (2, []), (2, []), (3, [1204, 1206, 37, 91]), (3, [])],
  [(1, []), (1, []), (3, [1172, 1174, 33, 91]), (1, [])],
  [(1, []), (2, []), (3, [])],
  [(1, []), (3, [])],
  [(1, [])],
  [(2, []), (1, []), (2, [])],
  [(2, []), (2, []), (3, [])],
  [(2, []), (3, [])],
  [(2, []), (1, []), (1, []), (2, []), (1, []), (3, [])],
  [(2, [])],
  [(2, []), (1, []), (3, [1072]), (2, []), (1, []), (1, []), (2, []), (1, []), (2, []), (1, []), (1, []), (3, [1072]), (2, []), (1, []), (1, []), (1, []), (1, []), (2, []), (1, []), (1, []), (1, []), (3, []), (3, [])],
  [(1, []), (1, [])]]
theorem ok_X9_copy : am_ck 181 bk_X9_copy ck_X9_copy = true := am_ckD (by decide +kernel)
theorem ml_X9_copy : am_ml 181 = 9 := by decide +kernel
theorem pn_X9_copy : plainName (am_y 181).cls = true := by decide +kernel
/-- PaceBorderModel.mean(I)I: number 182, loop heads [7] -/
noncomputable def bl_X9_mean_0 : am_B := (0, [(.iload_n 1, []), (.invokestatic 75, [172, 1, 0, 1]), (.ifCond .ne 5, [2, 1])], none)
noncomputable def bl_X9_mean_1 : am_B := (7, [(.iconst (-1), []), (.ireturn, [0])], none)
noncomputable def bl_X9_mean_2 : am_B := (9, [(.aload_n 0, []), (.getfield 19, [9, 4, 2]), (.iload_n 1, []), (.iaload, []), (.ifCond .ge 9, [4, 3])], none)
noncomputable def bl_X9_mean_3 : am_B := (18, [(.aload_n 0, []), (.iconst 1, []), (.invokevirtual 79, [170, 1, 9, 1]), (.ireturn, [0])], none)
noncomputable def bl_X9_mean_4 : am_B := (24, [(.aload_n 0, []), (.getfield 19, [9, 4, 2]), (.iload_n 1, []), (.iaload, []), (.ifCond .ne 9, [6, 5])], none)
noncomputable def bl_X9_mean_5 : am_B := (33, [(.aload_n 0, []), (.iconst 4, []), (.invokevirtual 79, [170, 1, 9, 1]), (.ireturn, [0])], none)
noncomputable def bl_X9_mean_6 : am_B := (39, [(.lconst 0, []), (.lstore_n 2, []), (.iconst 0, []), (.istore 4, [])], some 1007)
noncomputable def bl_X9_mean_7 : am_B := (44, [(.iload 4, []), (.aload_n 0, []), (.getfield 19, [9, 4, 2]), (.iload_n 1, []), (.iaload, []), (.if_icmp .ge 25, [1009, 8])], none)
noncomputable def bl_X9_mean_8 : am_B := (55, [(.lload_n 2, []), (.aload_n 0, []), (.getfield 22, [9, 5, 2]), (.bipush 40, []), (.iload_n 1, []), (.imul, []), (.iload 4, []), (.iadd, []), (.iaload, []), (.i2l, []), (.ladd, []), (.lstore_n 2, []), (.iinc 4 1, []), (.goto (-30), [1007])], none)
noncomputable def bl_X9_mean_9 : am_B := (77, [(.aload_n 0, []), (.lload_n 2, []), (.aload_n 0, []), (.getfield 19, [9, 4, 2]), (.iload_n 1, []), (.iaload, []), (.i2l, []), (.ldiv, []), (.l2i, []), (.invokevirtual 91, [171, 1, 9, 1]), (.ireturn, [0])], none)
noncomputable def bk_X9_mean : List am_B := [bl_X9_mean_0, bl_X9_mean_1, bl_X9_mean_2, bl_X9_mean_3, bl_X9_mean_4, bl_X9_mean_5, bl_X9_mean_6, bl_X9_mean_7, bl_X9_mean_8, bl_X9_mean_9]
noncomputable def ck_X9_mean : List (List (Nat × List Nat)) := [[(1, []), (3, [1165, 1166, 91]), (3, [])],
  [(1, []), (1, [])],
  [(1, []), (3, [1071]), (1, []), (1, []), (3, [])],
  [(1, []), (1, []), (3, [1172, 1174, 33, 91]), (1, [])],
  [(1, []), (3, [1071]), (1, []), (1, []), (3, [])],
  [(1, []), (1, []), (3, [1172, 1174, 33, 91]), (1, [])],
  [(1, []), (1, []), (1, []), (2, [])],
  [(2, []), (1, []), (3, [1071]), (1, []), (1, []), (3, [])],
  [(1, []), (1, []), (3, [1072]), (2, []), (1, []), (1, []), (2, []), (1, []), (1, []), (1, []), (1, []), (1, []), (3, []), (3, [])],
  [(1, []), (1, []), (1, []), (3, [1071]), (1, []), (1, []), (1, []), (1, []), (1, []), (3, [1188, 1190, 36, 91]), (1, [])]]
theorem ok_X9_mean : am_ck 182 bk_X9_mean ck_X9_mean = true := am_ckD (by decide +kernel)
theorem ml_X9_mean : am_ml 182 = 5 := by decide +kernel
theorem pn_X9_mean : plainName (am_y 182).cls = true := by decide +kernel
/-- PaceBorderModel.text(II)I: number 183, loop heads [6] -/
noncomputable def bl_X9_text_0 : am_B := (0, [(.iload_n 1, []), (.invokestatic 98, [173, 1, 0, 1]), (.ifCond .eq 9, [2, 1])], none)
noncomputable def bl_X9_text_1 : am_B := (7, [(.iload_n 2, []), (.bipush 60, []), (.if_icmp .le 5, [3, 2])], none)
noncomputable def bl_X9_text_2 : am_B := (13, [(.iconst (-1), []), (.ireturn, [0])], none)
noncomputable def bl_X9_text_3 : am_B := (15, [(.iload_n 2, []), (.ifCond .ge 9, [5, 4])], none)
noncomputable def bl_X9_text_4 : am_B := (19, [(.aload_n 0, []), (.iconst 5, []), (.invokevirtual 79, [170, 1, 9, 1]), (.ireturn, [0])], none)
noncomputable def bl_X9_text_5 : am_B := (25, [(.aload_n 0, []), (.getfield 25, [9, 6, 2]), (.iload_n 1, []), (.iload_n 2, []), (.iastore, []), (.iconst 0, []), (.istore_n 3, [])], some 1006)
noncomputable def bl_X9_text_6 : am_B := (34, [(.iload_n 3, []), (.bipush 60, []), (.if_icmp .ge 22, [1008, 7])], none)
noncomputable def bl_X9_text_7 : am_B := (40, [(.aload_n 0, []), (.getfield 28, [9, 7, 2]), (.bipush 60, []), (.iload_n 1, []), (.imul, []), (.iload_n 3, []), (.iadd, []), (.bipush 32, []), (.iastore, []), (.iinc 3 1, []), (.goto (-22), [1006])], none)
noncomputable def bl_X9_text_8 : am_B := (59, [(.iload_n 2, []), (.ireturn, [0])], none)
noncomputable def bk_X9_text : List am_B := [bl_X9_text_0, bl_X9_text_1, bl_X9_text_2, bl_X9_text_3, bl_X9_text_4, bl_X9_text_5, bl_X9_text_6, bl_X9_text_7, bl_X9_text_8]
noncomputable def ck_X9_text : List (List (Nat × List Nat)) := [[(1, []), (3, [1216, 1217, 91]), (3, [])],
  [(1, []), (2, []), (3, [])],
  [(1, []), (1, [])],
  [(1, []), (3, [])],
  [(1, []), (1, []), (3, [1172, 1174, 33, 91]), (1, [])],
  [(1, []), (3, [1073]), (1, []), (1, []), (1, []), (1, []), (1, [])],
  [(1, []), (2, []), (3, [])],
  [(1, []), (3, [1074]), (2, []), (1, []), (1, []), (1, []), (1, []), (2, []), (1, []), (3, []), (3, [])],
  [(1, []), (1, [])]]
theorem ok_X9_text : am_ck 183 bk_X9_text ck_X9_text = true := am_ckD (by decide +kernel)
theorem ml_X9_text : am_ml 183 = 4 := by decide +kernel
theorem pn_X9_text : plainName (am_y 183).cls = true := by decide +kernel
/-- PaceBorderModel.put(III)I: number 184, loop heads [] -/
noncomputable def bl_X9_put_0 : am_B := (0, [(.iload_n 1, []), (.invokestatic 98, [173, 1, 0, 1]), (.ifCond .ne 5, [2, 1])], none)
noncomputable def bl_X9_put_1 : am_B := (7, [(.iconst (-1), []), (.ireturn, [0])], none)
noncomputable def bl_X9_put_2 : am_B := (9, [(.aload_n 0, []), (.getfield 25, [9, 6, 2]), (.iload_n 1, []), (.iaload, []), (.ifCond .ge 9, [4, 3])], none)
noncomputable def bl_X9_put_3 : am_B := (18, [(.aload_n 0, []), (.iconst 1, []), (.invokevirtual 79, [170, 1, 9, 1]), (.ireturn, [0])], none)
noncomputable def bl_X9_put_4 : am_B := (24, [(.iload_n 2, []), (.i2l, []), (.lconst 0, []), (.aload_n 0, []), (.getfield 25, [9, 6, 2]), (.iload_n 1, []), (.iaload, []), (.iconst 1, []), (.isub, []), (.i2l, []), (.invokestatic 69, [168, 3, 0, 1]), (.ifCond .ne 9, [6, 5])], none)
noncomputable def bl_X9_put_5 : am_B := (42, [(.aload_n 0, []), (.iconst 2, []), (.invokevirtual 79, [170, 1, 9, 1]), (.ireturn, [0])], none)
noncomputable def bl_X9_put_6 : am_B := (48, [(.aload_n 0, []), (.getfield 28, [9, 7, 2]), (.bipush 60, []), (.iload_n 1, []), (.imul, []), (.iload_n 2, []), (.iadd, []), (.iaload, []), (.istore 4, []), (.aload_n 0, []), (.getfield 28, [9, 7, 2]), (.bipush 60, []), (.iload_n 1, []), (.imul, []), (.iload_n 2, []), (.iadd, []), (.iload_n 3, []), (.i2b, []), (.iastore, []), (.iload 4, []), (.sipush 1000, []), (.iadd, []), (.ireturn, [0])], none)
noncomputable def bk_X9_put : List am_B := [bl_X9_put_0, bl_X9_put_1, bl_X9_put_2, bl_X9_put_3, bl_X9_put_4, bl_X9_put_5, bl_X9_put_6]
noncomputable def ck_X9_put : List (List (Nat × List Nat)) := [[(1, []), (3, [1216, 1217, 91]), (3, [])],
  [(1, []), (1, [])],
  [(1, []), (3, [1073]), (1, []), (1, []), (3, [])],
  [(1, []), (1, []), (3, [1172, 1174, 33, 91]), (1, [])],
  [(1, []), (1, []), (1, []), (1, []), (3, [1073]), (1, []), (1, []), (1, []), (1, []), (1, []), (3, [1169, 1170, 91]), (3, [])],
  [(1, []), (1, []), (3, [1172, 1174, 33, 91]), (1, [])],
  [(1, []), (3, [1074]), (2, []), (1, []), (1, []), (1, []), (1, []), (1, []), (2, []), (1, []), (3, [1074]), (2, []), (1, []), (1, []), (1, []), (1, []), (1, []), (1, []), (1, []), (2, []), (3, []), (1, []), (1, [])]]
theorem ok_X9_put : am_ck 184 bk_X9_put ck_X9_put = true := am_ckD (by decide +kernel)
theorem ml_X9_put : am_ml 184 = 5 := by decide +kernel
theorem pn_X9_put : plainName (am_y 184).cls = true := by decide +kernel
/-- PaceBorderModel.here()I: number 185, loop heads [] -/
noncomputable def bl_X9_here_0 : am_B := (0, [(.aload_n 0, []), (.getfield 28, [9, 7, 2]), (.aload_n 0, []), (.getfield 101, [9, 13, 0]), (.aload_n 0, []), (.getfield 104, [9, 14, 0]), (.iadd, []), (.iaload, []), (.ireturn, [0])], none)
noncomputable def bk_X9_here : List am_B := [bl_X9_here_0]
noncomputable def ck_X9_here : List (List (Nat × List Nat)) := [[(1, []), (3, [1074]), (1, []), (3, [1080]), (1, []), (3, [1081]), (1, []), (1, []), (1, [])]]
theorem ok_X9_here : am_ck 185 bk_X9_here ck_X9_here = true := am_ckD (by decide +kernel)
theorem ml_X9_here : am_ml 185 = 1 := by decide +kernel
theorem pn_X9_here : plainName (am_y 185).cls = true := by decide +kernel
/-- PaceBorderModel.skip()V: number 186, loop heads [0] -/
noncomputable def bl_X9_skip_0 : am_B := (0, [(.aload_n 0, []), (.getfield 104, [9, 14, 0]), (.aload_n 0, []), (.getfield 107, [9, 15, 0]), (.if_icmp .ge 25, [1003, 1])], none)
noncomputable def bl_X9_skip_1 : am_B := (11, [(.aload_n 0, []), (.invokevirtual 110, [185, 0, 9, 1]), (.bipush 32, []), (.if_icmp .ne 16, [1003, 2])], none)
noncomputable def bl_X9_skip_2 : am_B := (20, [(.aload_n 0, []), (.dup, []), (.getfield 104, [9, 14, 0]), (.iconst 1, []), (.iadd, []), (.putfield 104, [9, 14, 0, 0]), (.goto (-30), [1000])], none)
noncomputable def bl_X9_skip_3 : am_B := (33, [(.return_, [])], none)
noncomputable def bk_X9_skip : List am_B := [bl_X9_skip_0, bl_X9_skip_1, bl_X9_skip_2, bl_X9_skip_3]
noncomputable def ck_X9_skip : List (List (Nat × List Nat)) := [[(1, []), (3, [1081]), (1, []), (3, [1082]), (3, [])],
  [(1, []), (3, [1236, 1238, 40, 91]), (2, []), (3, [])],
  [(1, []), (1, []), (3, [1081]), (1, []), (1, []), (3, [1081]), (3, [])],
  [(1, [])]]
theorem ok_X9_skip : am_ck 186 bk_X9_skip ck_X9_skip = true := am_ckD (by decide +kernel)
theorem ml_X9_skip : am_ml 186 = 1 := by decide +kernel
theorem pn_X9_skip : plainName (am_y 186).cls = true := by decide +kernel
/-- PaceBorderModel.figure(II)I: number 187, loop heads [] -/
noncomputable def bl_X9_figure_0 : am_B := (0, [(.aload_n 0, []), (.getfield 104, [9, 14, 0]), (.aload_n 0, []), (.getfield 107, [9, 15, 0]), (.if_icmp .eq 24, [2, 1])], none)
noncomputable def bl_X9_figure_1 : am_B := (11, [(.aload_n 0, []), (.invokevirtual 110, [185, 0, 9, 1]), (.i2l, []), (.bipush 48, []), (.iload_n 1, []), (.iadd, []), (.i2l, []), (.bipush 48, []), (.iload_n 2, []), (.iadd, []), (.i2l, []), (.invokestatic 69, [168, 3, 0, 1]), (.ifCond .ne 6, [3, 2])], none)
noncomputable def bl_X9_figure_2 : am_B := (32, [(.bipush (-9), []), (.ireturn, [0])], none)
noncomputable def bl_X9_figure_3 : am_B := (35, [(.aload_n 0, []), (.dup, []), (.getfield 104, [9, 14, 0]), (.iconst 1, []), (.iadd, []), (.putfield 104, [9, 14, 0, 0]), (.aload_n 0, []), (.getfield 28, [9, 7, 2]), (.aload_n 0, []), (.getfield 101, [9, 13, 0]), (.aload_n 0, []), (.getfield 104, [9, 14, 0]), (.iadd, []), (.iconst 1, []), (.isub, []), (.iaload, []), (.bipush 48, []), (.isub, []), (.ireturn, [0])], none)
noncomputable def bk_X9_figure : List am_B := [bl_X9_figure_0, bl_X9_figure_1, bl_X9_figure_2, bl_X9_figure_3]
noncomputable def ck_X9_figure : List (List (Nat × List Nat)) := [[(1, []), (3, [1081]), (1, []), (3, [1082]), (3, [])],
  [(1, []), (3, [1236, 1238, 40, 91]), (1, []), (2, []), (1, []), (1, []), (1, []), (2, []), (1, []), (1, []), (1, []), (3, [1169, 1170, 91]), (3, [])],
  [(2, []), (1, [])],
  [(1, []), (1, []), (3, [1081]), (1, []), (1, []), (3, [1081]), (1, []), (3, [1074]), (1, []), (3, [1080]), (1, []), (3, [1081]), (1, []), (1, []), (1, []), (1, []), (2, []), (1, []), (1, [])]]
theorem ok_X9_figure : am_ck 187 bk_X9_figure ck_X9_figure = true := am_ckD (by decide +kernel)
theorem ml_X9_figure : am_ml 187 = 3 := by decide +kernel
theorem pn_X9_figure : plainName (am_y 187).cls = true := by decide +kernel
/-- PaceBorderModel.kindHere()I: number 188, loop heads [] -/
noncomputable def bl_X9_kindHere_0 : am_B := (0, [(.aload_n 0, []), (.invokevirtual 110, [185, 0, 9, 1]), (.istore_n 1, []), (.iload_n 1, []), (.bipush 115, []), (.if_icmp .ne 7, [2, 1])], none)
noncomputable def bl_X9_kindHere_1 : am_B := (11, [(.iconst 0, []), (.goto 55, [13])], none)
noncomputable def bl_X9_kindHere_2 : am_B := (15, [(.iload_n 1, []), (.bipush 102, []), (.if_icmp .ne 7, [4, 3])], none)
noncomputable def bl_X9_kindHere_3 : am_B := (21, [(.iconst 1, []), (.goto 45, [13])], none)
noncomputable def bl_X9_kindHere_4 : am_B := (25, [(.iload_n 1, []), (.bipush 119, []), (.if_icmp .ne 7, [6, 5])], none)
noncomputable def bl_X9_kindHere_5 : am_B := (31, [(.iconst 2, []), (.goto 35, [13])], none)
noncomputable def bl_X9_kindHere_6 : am_B := (35, [(.iload_n 1, []), (.bipush 114, []), (.if_icmp .ne 7, [8, 7])], none)
noncomputable def bl_X9_kindHere_7 : am_B := (41, [(.iconst 3, []), (.goto 25, [13])], none)
noncomputable def bl_X9_kindHere_8 : am_B := (45, [(.iload_n 1, []), (.bipush 105, []), (.if_icmp .ne 7, [10, 9])], none)
noncomputable def bl_X9_kindHere_9 : am_B := (51, [(.iconst 4, []), (.goto 15, [13])], none)
noncomputable def bl_X9_kindHere_10 : am_B := (55, [(.iload_n 1, []), (.bipush 116, []), (.if_icmp .ne 7, [12, 11])], none)
noncomputable def bl_X9_kindHere_11 : am_B := (61, [(.iconst 5, []), (.goto 5, [13])], none)
noncomputable def bl_X9_kindHere_12 : am_B := (65, [(.bipush (-9), [])], some 13)
noncomputable def bl_X9_kindHere_13 : am_B := (67, [(.ireturn, [0])], none)
noncomputable def bk_X9_kindHere : List am_B := [bl_X9_kindHere_0, bl_X9_kindHere_1, bl_X9_kindHere_2, bl_X9_kindHere_3, bl_X9_kindHere_4, bl_X9_kindHere_5, bl_X9_kindHere_6, bl_X9_kindHere_7, bl_X9_kindHere_8, bl_X9_kindHere_9, bl_X9_kindHere_10, bl_X9_kindHere_11, bl_X9_kindHere_12, bl_X9_kindHere_13]
noncomputable def ck_X9_kindHere : List (List (Nat × List Nat)) := [[(1, []), (3, [1236, 1238, 40, 91]), (1, []), (1, []), (2, []), (3, [])],
  [(1, []), (3, [])],
  [(1, []), (2, []), (3, [])],
  [(1, []), (3, [])],
  [(1, []), (2, []), (3, [])],
  [(1, []), (3, [])],
  [(1, []), (2, []), (3, [])],
  [(1, []), (3, [])],
  [(1, []), (2, []), (3, [])],
  [(1, []), (3, [])],
  [(1, []), (2, []), (3, [])],
  [(1, []), (3, [])],
  [(2, [])],
  [(1, [])]]
theorem ok_X9_kindHere : am_ck 188 bk_X9_kindHere ck_X9_kindHere = true := am_ckD (by decide +kernel)
theorem ml_X9_kindHere : am_ml 188 = 2 := by decide +kernel
theorem pn_X9_kindHere : plainName (am_y 188).cls = true := by decide +kernel
/-- PaceBorderModel.readsStrip()Z: number 189, loop heads [] -/
noncomputable def bl_X9_readsStrip_0 : am_B := (0, [(.aload_n 0, []), (.invokevirtual 114, [188, 0, 9, 1]), (.istore_n 1, []), (.iload_n 1, []), (.bipush (-9), []), (.if_icmp .eq 12, [2, 1])], none)
noncomputable def bl_X9_readsStrip_1 : am_B := (11, [(.aload_n 0, []), (.getfield 117, [9, 17, 0]), (.bipush 12, []), (.if_icmp .ne 5, [3, 2])], none)
noncomputable def bl_X9_readsStrip_2 : am_B := (20, [(.iconst 0, []), (.ireturn, [1])], none)
noncomputable def bl_X9_readsStrip_3 : am_B := (22, [(.aload_n 0, []), (.dup, []), (.getfield 104, [9, 14, 0]), (.iconst 1, []), (.iadd, []), (.putfield 104, [9, 14, 0, 0]), (.aload_n 0, []), (.iconst 0, []), (.bipush 9, []), (.invokevirtual 120, [187, 2, 9, 1]), (.istore_n 2, []), (.iload_n 2, []), (.bipush (-9), []), (.if_icmp .ne 5, [5, 4])], none)
noncomputable def bl_X9_readsStrip_4 : am_B := (46, [(.iconst 0, []), (.ireturn, [1])], none)
noncomputable def bl_X9_readsStrip_5 : am_B := (48, [(.aload_n 0, []), (.getfield 38, [9, 16, 2]), (.iconst 2, []), (.aload_n 0, []), (.getfield 117, [9, 17, 0]), (.imul, []), (.iload_n 1, []), (.iastore, []), (.aload_n 0, []), (.getfield 38, [9, 16, 2]), (.iconst 2, []), (.aload_n 0, []), (.getfield 117, [9, 17, 0]), (.imul, []), (.iconst 1, []), (.iadd, []), (.iload_n 2, []), (.iastore, []), (.aload_n 0, []), (.dup, []), (.getfield 117, [9, 17, 0]), (.iconst 1, []), (.iadd, []), (.putfield 117, [9, 17, 0, 0]), (.iconst 1, []), (.ireturn, [1])], none)
noncomputable def bk_X9_readsStrip : List am_B := [bl_X9_readsStrip_0, bl_X9_readsStrip_1, bl_X9_readsStrip_2, bl_X9_readsStrip_3, bl_X9_readsStrip_4, bl_X9_readsStrip_5]
noncomputable def ck_X9_readsStrip : List (List (Nat × List Nat)) := [[(1, []), (3, [1244, 1246, 42, 91]), (1, []), (1, []), (2, []), (3, [])],
  [(1, []), (3, [1084]), (2, []), (3, [])],
  [(1, []), (1, [])],
  [(1, []), (1, []), (3, [1081]), (1, []), (1, []), (3, [1081]), (1, []), (1, []), (2, []), (3, [1248, 1250, 43, 91]), (1, []), (1, []), (2, []), (3, [])],
  [(1, []), (1, [])],
  [(1, []), (3, [1083]), (1, []), (1, []), (3, [1084]), (1, []), (1, []), (1, []), (1, []), (3, [1083]), (1, []), (1, []), (3, [1084]), (1, []), (1, []), (1, []), (1, []), (1, []), (1, []), (1, []), (3, [1084]), (1, []), (1, []), (3, [1084]), (1, []), (1, [])]]
theorem ok_X9_readsStrip : am_ck 189 bk_X9_readsStrip ck_X9_readsStrip = true := am_ckD (by decide +kernel)
theorem ml_X9_readsStrip : am_ml 189 = 3 := by decide +kernel
theorem pn_X9_readsStrip : plainName (am_y 189).cls = true := by decide +kernel
/-- PaceBorderModel.readsEnd()Z: number 190, loop heads [3] -/
noncomputable def bl_X9_readsEnd_0 : am_B := (0, [(.aload_n 0, []), (.getfield 117, [9, 17, 0]), (.iconst 2, []), (.if_icmp .ge 5, [2, 1])], none)
noncomputable def bl_X9_readsEnd_1 : am_B := (8, [(.iconst 0, []), (.ireturn, [1])], none)
noncomputable def bl_X9_readsEnd_2 : am_B := (10, [(.aload_n 0, []), (.dup, []), (.getfield 104, [9, 14, 0]), (.iconst 1, []), (.iadd, []), (.putfield 104, [9, 14, 0, 0]), (.iconst 0, []), (.istore_n 1, [])], some 1003)
noncomputable def bl_X9_readsEnd_3 : am_B := (22, [(.iload_n 1, []), (.iconst 3, []), (.if_icmp .ge 65, [1013, 4])], none)
noncomputable def bl_X9_readsEnd_4 : am_B := (27, [(.aload_n 0, []), (.getfield 41, [9, 18, 2]), (.iload_n 1, []), (.iload_n 1, []), (.ifCond .ne 29, [9, 5])], none)
noncomputable def bl_X9_readsEnd_5 : am_B := (36, [(.aload_n 0, []), (.iconst 0, []), (.aload_n 0, []), (.getfield 117, [9, 17, 0]), (.bipush 9, []), (.if_icmp .ge 10, [7, 6])], none)
noncomputable def bl_X9_readsEnd_6 : am_B := (47, [(.aload_n 0, []), (.getfield 117, [9, 17, 0]), (.goto 5, [8])], none)
noncomputable def bl_X9_readsEnd_7 : am_B := (54, [(.bipush 9, [])], some 8)
noncomputable def bl_X9_readsEnd_8 : am_B := (56, [(.invokevirtual 120, [187, 2, 9, 1]), (.goto 10, [10])], none)
noncomputable def bl_X9_readsEnd_9 : am_B := (62, [(.aload_n 0, []), (.iconst 1, []), (.bipush 9, []), (.invokevirtual 120, [187, 2, 9, 1])], some 10)
noncomputable def bl_X9_readsEnd_10 : am_B := (69, [(.iastore, []), (.aload_n 0, []), (.getfield 41, [9, 18, 2]), (.iload_n 1, []), (.iaload, []), (.bipush (-9), []), (.if_icmp .ne 5, [12, 11])], none)
noncomputable def bl_X9_readsEnd_11 : am_B := (81, [(.iconst 0, []), (.ireturn, [1])], none)
noncomputable def bl_X9_readsEnd_12 : am_B := (83, [(.iinc 1 1, []), (.goto (-64), [1003])], none)
noncomputable def bl_X9_readsEnd_13 : am_B := (89, [(.aload_n 0, []), (.invokevirtual 123, [186, 0, 9, 0]), (.aload_n 0, []), (.getfield 104, [9, 14, 0]), (.aload_n 0, []), (.getfield 107, [9, 15, 0]), (.if_icmp .ne 7, [15, 14])], none)
noncomputable def bl_X9_readsEnd_14 : am_B := (104, [(.iconst 1, []), (.goto 4, [16])], none)
noncomputable def bl_X9_readsEnd_15 : am_B := (108, [(.iconst 0, [])], some 16)
noncomputable def bl_X9_readsEnd_16 : am_B := (109, [(.ireturn, [1])], none)
noncomputable def bk_X9_readsEnd : List am_B := [bl_X9_readsEnd_0, bl_X9_readsEnd_1, bl_X9_readsEnd_2, bl_X9_readsEnd_3, bl_X9_readsEnd_4, bl_X9_readsEnd_5, bl_X9_readsEnd_6, bl_X9_readsEnd_7, bl_X9_readsEnd_8, bl_X9_readsEnd_9, bl_X9_readsEnd_10, bl_X9_readsEnd_11, bl_X9_readsEnd_12, bl_X9_readsEnd_13, bl_X9_readsEnd_14, bl_X9_readsEnd_15, bl_X9_readsEnd_16]
noncomputable def ck_X9_readsEnd : List (List (Nat × List Nat)) := [[(1, []), (3, [1084]), (1, []), (3, [])],
  [(1, []), (1, [])],
  [(1, []), (1, []), (3, [1081]), (1, []), (1, []), (3, [1081]), (1, []), (1, [])],
  [(1, []), (1, []), (3, [])],
  [(1, []), (3, [1085]), (1, []), (1, []), (3, [])],
  [(1, []), (1, []), (1, []), (3, [1084]), (2, []), (3, [])],
  [(1, []), (3, [1084]), (3, [])],
  [(2, [])],
  [(3, [1248, 1250, 43, 91]), (3, [])],
  [(1, []), (1, []), (2, []), (3, [1248, 1250, 43, 91])],
  [(1, []), (1, []), (3, [1085]), (1, []), (1, []), (2, []), (3, [])],
  [(1, []), (1, [])],
  [(3, []), (3, [])],
  [(1, []), (3, [1232, 1234, 39, 91]), (1, []), (3, [1081]), (1, []), (3, [1082]), (3, [])],
  [(1, []), (3, [])],
  [(1, [])],
  [(1, [])]]
theorem ok_X9_readsEnd : am_ck 190 bk_X9_readsEnd ck_X9_readsEnd = true := am_ckD (by decide +kernel)
theorem ml_X9_readsEnd : am_ml 190 = 2 := by decide +kernel
theorem pn_X9_readsEnd : plainName (am_y 190).cls = true := by decide +kernel
/-- PaceBorderModel.faultOf(I)I: number 191, loop heads [1] -/
noncomputable def bl_X9_faultOf_0 : am_B := (0, [(.aload_n 0, []), (.bipush 60, []), (.iload_n 1, []), (.imul, []), (.putfield 101, [9, 13, 0, 0]), (.aload_n 0, []), (.iconst 0, []), (.putfield 104, [9, 14, 0, 0]), (.aload_n 0, []), (.aload_n 0, []), (.getfield 25, [9, 6, 2]), (.iload_n 1, []), (.iaload, []), (.putfield 107, [9, 15, 0, 0]), (.aload_n 0, []), (.iconst 0, []), (.putfield 117, [9, 17, 0, 0]), (.aload_n 0, []), (.invokevirtual 123, [186, 0, 9, 0]), (.iconst 1, []), (.istore_n 2, [])], some 1001)
noncomputable def bl_X9_faultOf_1 : am_B := (34, [(.iload_n 2, []), (.ifCond .eq 39, [1006, 2])], none)
noncomputable def bl_X9_faultOf_2 : am_B := (38, [(.aload_n 0, []), (.getfield 104, [9, 14, 0]), (.aload_n 0, []), (.getfield 107, [9, 15, 0]), (.if_icmp .ge 28, [1006, 3])], none)
noncomputable def bl_X9_faultOf_3 : am_B := (49, [(.aload_n 0, []), (.invokevirtual 110, [185, 0, 9, 1]), (.bipush 98, []), (.if_icmp .eq 19, [1006, 4])], none)
noncomputable def bl_X9_faultOf_4 : am_B := (58, [(.aload_n 0, []), (.invokevirtual 126, [189, 0, 9, 1]), (.istore_n 2, []), (.iload_n 2, []), (.ifCond .eq (-30), [1001, 5])], none)
noncomputable def bl_X9_faultOf_5 : am_B := (67, [(.aload_n 0, []), (.invokevirtual 123, [186, 0, 9, 0]), (.goto (-37), [1001])], none)
noncomputable def bl_X9_faultOf_6 : am_B := (74, [(.iload_n 2, []), (.ifCond .eq 25, [10, 7])], none)
noncomputable def bl_X9_faultOf_7 : am_B := (78, [(.aload_n 0, []), (.getfield 104, [9, 14, 0]), (.aload_n 0, []), (.getfield 107, [9, 15, 0]), (.if_icmp .ge 14, [10, 8])], none)
noncomputable def bl_X9_faultOf_8 : am_B := (89, [(.aload_n 0, []), (.invokevirtual 130, [190, 0, 9, 1]), (.ifCond .eq 7, [10, 9])], none)
noncomputable def bl_X9_faultOf_9 : am_B := (96, [(.iconst 1, []), (.goto 4, [11])], none)
noncomputable def bl_X9_faultOf_10 : am_B := (100, [(.iconst 0, [])], some 11)
noncomputable def bl_X9_faultOf_11 : am_B := (101, [(.istore_n 2, []), (.iload_n 2, []), (.ifCond .eq 8, [13, 12])], none)
noncomputable def bl_X9_faultOf_12 : am_B := (106, [(.bipush (-9), []), (.goto 7, [14])], none)
noncomputable def bl_X9_faultOf_13 : am_B := (111, [(.aload_n 0, []), (.getfield 104, [9, 14, 0])], some 14)
noncomputable def bl_X9_faultOf_14 : am_B := (115, [(.ireturn, [0])], none)
noncomputable def bk_X9_faultOf : List am_B := [bl_X9_faultOf_0, bl_X9_faultOf_1, bl_X9_faultOf_2, bl_X9_faultOf_3, bl_X9_faultOf_4, bl_X9_faultOf_5, bl_X9_faultOf_6, bl_X9_faultOf_7, bl_X9_faultOf_8, bl_X9_faultOf_9, bl_X9_faultOf_10, bl_X9_faultOf_11, bl_X9_faultOf_12, bl_X9_faultOf_13, bl_X9_faultOf_14]
noncomputable def ck_X9_faultOf : List (List (Nat × List Nat)) := [[(1, []), (2, []), (1, []), (1, []), (3, [1080]), (1, []), (1, []), (3, [1081]), (1, []), (1, []), (3, [1073]), (1, []), (1, []), (3, [1082]), (1, []), (1, []), (3, [1084]), (1, []), (3, [1232, 1234, 39, 91]), (1, []), (1, [])],
  [(1, []), (3, [])],
  [(1, []), (3, [1081]), (1, []), (3, [1082]), (3, [])],
  [(1, []), (3, [1236, 1238, 40, 91]), (2, []), (3, [])],
  [(1, []), (3, [1240, 1242, 41, 91]), (1, []), (1, []), (3, [])],
  [(1, []), (3, [1232, 1234, 39, 91]), (3, [])],
  [(1, []), (3, [])],
  [(1, []), (3, [1081]), (1, []), (3, [1082]), (3, [])],
  [(1, []), (3, [1252, 1254, 44, 91]), (3, [])],
  [(1, []), (3, [])],
  [(1, [])],
  [(1, []), (1, []), (3, [])],
  [(2, []), (3, [])],
  [(1, []), (3, [1081])],
  [(1, [])]]
theorem ok_X9_faultOf : am_ck 191 bk_X9_faultOf ck_X9_faultOf = true := am_ckD (by decide +kernel)
theorem ml_X9_faultOf : am_ml 191 = 3 := by decide +kernel
theorem pn_X9_faultOf : plainName (am_y 191).cls = true := by decide +kernel
/-- PaceBorderModel.fault(I)I: number 192, loop heads [] -/
noncomputable def bl_X9_fault_0 : am_B := (0, [(.iload_n 1, []), (.invokestatic 98, [173, 1, 0, 1]), (.ifCond .ne 5, [2, 1])], none)
noncomputable def bl_X9_fault_1 : am_B := (7, [(.iconst (-1), []), (.ireturn, [0])], none)
noncomputable def bl_X9_fault_2 : am_B := (9, [(.aload_n 0, []), (.getfield 25, [9, 6, 2]), (.iload_n 1, []), (.iaload, []), (.ifCond .ge 11, [4, 3])], none)
noncomputable def bl_X9_fault_3 : am_B := (18, [(.aload_n 0, []), (.iconst 1, []), (.invokevirtual 79, [170, 1, 9, 1]), (.goto 8, [5])], none)
noncomputable def bl_X9_fault_4 : am_B := (26, [(.aload_n 0, []), (.iload_n 1, []), (.invokevirtual 133, [191, 1, 9, 1])], some 5)
noncomputable def bl_X9_fault_5 : am_B := (31, [(.ireturn, [0])], none)
noncomputable def bk_X9_fault : List am_B := [bl_X9_fault_0, bl_X9_fault_1, bl_X9_fault_2, bl_X9_fault_3, bl_X9_fault_4, bl_X9_fault_5]
noncomputable def ck_X9_fault : List (List (Nat × List Nat)) := [[(1, []), (3, [1216, 1217, 91]), (3, [])],
  [(1, []), (1, [])],
  [(1, []), (3, [1073]), (1, []), (1, []), (3, [])],
  [(1, []), (1, []), (3, [1172, 1174, 33, 91]), (3, [])],
  [(1, []), (1, []), (3, [1228, 1230, 38, 91])],
  [(1, [])]]
theorem ok_X9_fault : am_ck 192 bk_X9_fault ck_X9_fault = true := am_ckD (by decide +kernel)
theorem ml_X9_fault : am_ml 192 = 2 := by decide +kernel
theorem pn_X9_fault : plainName (am_y 192).cls = true := by decide +kernel
/-- PaceBorderModel.land(I)I: number 193, loop heads [7, 10, 13] -/
noncomputable def bl_X9_land_0 : am_B := (0, [(.iload_n 1, []), (.invokestatic 98, [173, 1, 0, 1]), (.ifCond .ne 5, [2, 1])], none)
noncomputable def bl_X9_land_1 : am_B := (7, [(.iconst (-1), []), (.ireturn, [0])], none)
noncomputable def bl_X9_land_2 : am_B := (9, [(.aload_n 0, []), (.getfield 25, [9, 6, 2]), (.iload_n 1, []), (.iaload, []), (.ifCond .ge 9, [4, 3])], none)
noncomputable def bl_X9_land_3 : am_B := (18, [(.aload_n 0, []), (.iconst 1, []), (.invokevirtual 79, [170, 1, 9, 1]), (.ireturn, [0])], none)
noncomputable def bl_X9_land_4 : am_B := (24, [(.aload_n 0, []), (.iload_n 1, []), (.invokevirtual 133, [191, 1, 9, 1]), (.bipush (-9), []), (.if_icmp .eq 6, [6, 5])], none)
noncomputable def bl_X9_land_5 : am_B := (34, [(.bipush (-4), []), (.ireturn, [0])], none)
noncomputable def bl_X9_land_6 : am_B := (37, [(.aload_n 0, []), (.aload_n 0, []), (.getfield 117, [9, 17, 0]), (.putfield 136, [9, 1, 0, 0]), (.iconst 0, []), (.istore_n 2, [])], some 1007)
noncomputable def bl_X9_land_7 : am_B := (47, [(.iload_n 2, []), (.aload_n 0, []), (.getfield 136, [9, 1, 0]), (.if_icmp .ge 39, [1009, 8])], none)
noncomputable def bl_X9_land_8 : am_B := (55, [(.aload_n 0, []), (.getfield 13, [9, 2, 2]), (.iload_n 2, []), (.aload_n 0, []), (.getfield 38, [9, 16, 2]), (.iconst 2, []), (.iload_n 2, []), (.imul, []), (.iaload, []), (.iastore, []), (.aload_n 0, []), (.getfield 16, [9, 3, 2]), (.iload_n 2, []), (.aload_n 0, []), (.getfield 38, [9, 16, 2]), (.iconst 2, []), (.iload_n 2, []), (.imul, []), (.iconst 1, []), (.iadd, []), (.iaload, []), (.iastore, []), (.iinc 2 1, []), (.goto (-41), [1007])], none)
noncomputable def bl_X9_land_9 : am_B := (91, [(.iconst 0, []), (.istore_n 2, [])], some 1010)
noncomputable def bl_X9_land_10 : am_B := (93, [(.iload_n 2, []), (.bipush 121, []), (.if_icmp .ge 16, [1012, 11])], none)
noncomputable def bl_X9_land_11 : am_B := (99, [(.aload_n 0, []), (.getfield 7, [9, 0, 2]), (.iload_n 2, []), (.iconst 0, []), (.iastore, []), (.iinc 2 1, []), (.goto (-16), [1010])], none)
noncomputable def bl_X9_land_12 : am_B := (112, [(.aload_n 0, []), (.getfield 7, [9, 0, 2]), (.iconst 1, []), (.aload_n 0, []), (.getfield 41, [9, 18, 2]), (.iconst 0, []), (.iaload, []), (.iastore, []), (.aload_n 0, []), (.getfield 7, [9, 0, 2]), (.bipush 120, []), (.aload_n 0, []), (.getfield 41, [9, 18, 2]), (.iconst 0, []), (.iaload, []), (.iastore, []), (.aload_n 0, []), (.getfield 7, [9, 0, 2]), (.iconst 2, []), (.aload_n 0, []), (.getfield 41, [9, 18, 2]), (.iconst 1, []), (.iaload, []), (.iastore, []), (.aload_n 0, []), (.getfield 7, [9, 0, 2]), (.iconst 3, []), (.aload_n 0, []), (.getfield 41, [9, 18, 2]), (.iconst 2, []), (.iaload, []), (.iastore, []), (.iconst 1, []), (.istore_n 2, [])], some 1013)
noncomputable def bl_X9_land_13 : am_B := (163, [(.iload_n 2, []), (.iconst 4, []), (.if_icmp .ge 21, [1015, 14])], none)
noncomputable def bl_X9_land_14 : am_B := (168, [(.aload_n 0, []), (.getfield 7, [9, 0, 2]), (.bipush 121, []), (.iload_n 2, []), (.imul, []), (.iconst 0, []), (.iadd, []), (.iconst (-1), []), (.iastore, []), (.iinc 2 1, []), (.goto (-20), [1013])], none)
noncomputable def bl_X9_land_15 : am_B := (186, [(.aload_n 0, []), (.getfield 136, [9, 1, 0]), (.ireturn, [0])], none)
noncomputable def bk_X9_land : List am_B := [bl_X9_land_0, bl_X9_land_1, bl_X9_land_2, bl_X9_land_3, bl_X9_land_4, bl_X9_land_5, bl_X9_land_6, bl_X9_land_7, bl_X9_land_8, bl_X9_land_9, bl_X9_land_10, bl_X9_land_11, bl_X9_land_12, bl_X9_land_13, bl_X9_land_14, bl_X9_land_15]
noncomputable def ck_X9_land : List (List (Nat × List Nat)) := [[(1, []), (3, [1216, 1217, 91]), (3, [])],
  [(1, []), (1, [])],
  [(1, []), (3, [1073]), (1, []), (1, []), (3, [])],
  [(1, []), (1, []), (3, [1172, 1174, 33, 91]), (1, [])],
  [(1, []), (1, []), (3, [1228, 1230, 38, 91]), (2, []), (3, [])],
  [(2, []), (1, [])],
  [(1, []), (1, []), (3, [1084]), (3, [1068]), (1, []), (1, [])],
  [(1, []), (1, []), (3, [1068]), (3, [])],
  [(1, []), (3, [1069]), (1, []), (1, []), (3, [1083]), (1, []), (1, []), (1, []), (1, []), (1, []), (1, []), (3, [1070]), (1, []), (1, []), (3, [1083]), (1, []), (1, []), (1, []), (1, []), (1, []), (1, []), (1, []), (3, []), (3, [])],
  [(1, []), (1, [])],
  [(1, []), (2, []), (3, [])],
  [(1, []), (3, [1067]), (1, []), (1, []), (1, []), (3, []), (3, [])],
  [(1, []), (3, [1067]), (1, []), (1, []), (3, [1085]), (1, []), (1, []), (1, []), (1, []), (3, [1067]), (2, []), (1, []), (3, [1085]), (1, []), (1, []), (1, []), (1, []), (3, [1067]), (1, []), (1, []), (3, [1085]), (1, []), (1, []), (1, []), (1, []), (3, [1067]), (1, []), (1, []), (3, [1085]), (1, []), (1, []), (1, []), (1, []), (1, [])],
  [(1, []), (1, []), (3, [])],
  [(1, []), (3, [1067]), (2, []), (1, []), (1, []), (1, []), (1, []), (1, []), (1, []), (3, []), (3, [])],
  [(1, []), (3, [1068]), (1, [])]]
theorem ok_X9_land : am_ck 193 bk_X9_land ck_X9_land = true := am_ckD (by decide +kernel)
theorem ml_X9_land : am_ml 193 = 3 := by decide +kernel
theorem pn_X9_land : plainName (am_y 193).cls = true := by decide +kernel
/-- PaceBorderModel.isStrip(I)Z: number 194, loop heads [] -/
noncomputable def bl_X9_isStrip_0 : am_B := (0, [(.iload_n 1, []), (.i2l, []), (.lconst 0, []), (.aload_n 0, []), (.getfield 136, [9, 1, 0]), (.iconst 1, []), (.isub, []), (.i2l, []), (.invokestatic 69, [168, 3, 0, 1]), (.ireturn, [1])], none)
noncomputable def bk_X9_isStrip : List am_B := [bl_X9_isStrip_0]
noncomputable def ck_X9_isStrip : List (List (Nat × List Nat)) := [[(1, []), (1, []), (1, []), (1, []), (3, [1068]), (1, []), (1, []), (1, []), (3, [1169, 1170, 91]), (1, [])]]
theorem ok_X9_isStrip : am_ck 194 bk_X9_isStrip ck_X9_isStrip = true := am_ckD (by decide +kernel)
theorem ml_X9_isStrip : am_ml 194 = 2 := by decide +kernel
theorem pn_X9_isStrip : plainName (am_y 194).cls = true := by decide +kernel
/-- PaceBorderModel.isWall(I)Z: number 195, loop heads [] -/
noncomputable def bl_X9_isWall_0 : am_B := (0, [(.iload_n 0, []), (.iconst 2, []), (.if_icmp .eq 8, [2, 1])], none)
noncomputable def bl_X9_isWall_1 : am_B := (5, [(.iload_n 0, []), (.iconst 5, []), (.if_icmp .ne 7, [3, 2])], none)
noncomputable def bl_X9_isWall_2 : am_B := (10, [(.iconst 1, []), (.goto 4, [4])], none)
noncomputable def bl_X9_isWall_3 : am_B := (14, [(.iconst 0, [])], some 4)
noncomputable def bl_X9_isWall_4 : am_B := (15, [(.ireturn, [1])], none)
noncomputable def bk_X9_isWall : List am_B := [bl_X9_isWall_0, bl_X9_isWall_1, bl_X9_isWall_2, bl_X9_isWall_3, bl_X9_isWall_4]
noncomputable def ck_X9_isWall : List (List (Nat × List Nat)) := [[(1, []), (1, []), (3, [])],
  [(1, []), (1, []), (3, [])],
  [(1, []), (3, [])],
  [(1, [])],
  [(1, [])]]
theorem ok_X9_isWall : am_ck 195 bk_X9_isWall ck_X9_isWall = true := am_ckD (by decide +kernel)
theorem ml_X9_isWall : am_ml 195 = 1 := by decide +kernel
theorem pn_X9_isWall : plainName (am_y 195).cls = true := by decide +kernel
/-- PaceBorderModel.behind(IIII)I: number 196, loop heads [] -/
noncomputable def bl_X9_behind_0 : am_B := (0, [(.iload_n 3, []), (.iload 4, []), (.if_icmp .le 10, [2, 1])], none)
noncomputable def bl_X9_behind_1 : am_B := (6, [(.iload_n 3, []), (.iload 4, []), (.isub, []), (.goto 7, [3])], none)
noncomputable def bl_X9_behind_2 : am_B := (13, [(.iload 4, []), (.iload_n 3, []), (.isub, [])], some 3)
noncomputable def bl_X9_behind_3 : am_B := (17, [(.istore 5, []), (.iload_n 3, []), (.iload 4, []), (.if_icmp .le 9, [5, 4])], none)
noncomputable def bl_X9_behind_4 : am_B := (25, [(.iload_n 1, []), (.iconst 1, []), (.isub, []), (.goto 4, [6])], none)
noncomputable def bl_X9_behind_5 : am_B := (31, [(.iload_n 1, [])], some 6)
noncomputable def bl_X9_behind_6 : am_B := (32, [(.istore 6, []), (.iload 5, []), (.ifCond .eq 49, [12, 7])], none)
noncomputable def bl_X9_behind_7 : am_B := (39, [(.aload_n 0, []), (.iload 6, []), (.invokevirtual 139, [194, 1, 9, 1]), (.ifCond .eq 40, [12, 8])], none)
noncomputable def bl_X9_behind_8 : am_B := (48, [(.aload_n 0, []), (.getfield 13, [9, 2, 2]), (.iload 6, []), (.iaload, []), (.invokestatic 142, [195, 1, 0, 1]), (.ifCond .eq 9, [10, 9])], none)
noncomputable def bl_X9_behind_9 : am_B := (61, [(.iload 5, []), (.iconst 1, []), (.if_icmp .eq 21, [12, 10])], none)
noncomputable def bl_X9_behind_10 : am_B := (67, [(.aload_n 0, []), (.getfield 13, [9, 2, 2]), (.iload 6, []), (.iaload, []), (.iconst 3, []), (.if_icmp .ne 12, [13, 11])], none)
noncomputable def bl_X9_behind_11 : am_B := (78, [(.iload_n 2, []), (.iconst 2, []), (.irem, []), (.iconst 1, []), (.if_icmp .ne 5, [13, 12])], none)
noncomputable def bl_X9_behind_12 : am_B := (85, [(.iload_n 1, []), (.ireturn, [0])], none)
noncomputable def bl_X9_behind_13 : am_B := (87, [(.iload_n 3, []), (.iload 4, []), (.if_icmp .le 9, [15, 14])], none)
noncomputable def bl_X9_behind_14 : am_B := (93, [(.iload_n 1, []), (.iconst 1, []), (.isub, []), (.goto 6, [16])], none)
noncomputable def bl_X9_behind_15 : am_B := (99, [(.iload_n 1, []), (.iconst 1, []), (.iadd, [])], some 16)
noncomputable def bl_X9_behind_16 : am_B := (102, [(.ireturn, [0])], none)
noncomputable def bk_X9_behind : List am_B := [bl_X9_behind_0, bl_X9_behind_1, bl_X9_behind_2, bl_X9_behind_3, bl_X9_behind_4, bl_X9_behind_5, bl_X9_behind_6, bl_X9_behind_7, bl_X9_behind_8, bl_X9_behind_9, bl_X9_behind_10, bl_X9_behind_11, bl_X9_behind_12, bl_X9_behind_13, bl_X9_behind_14, bl_X9_behind_15, bl_X9_behind_16]
noncomputable def ck_X9_behind : List (List (Nat × List Nat)) := [[(1, []), (2, []), (3, [])],
  [(1, []), (2, []), (1, []), (3, [])],
  [(2, []), (1, []), (1, [])],
  [(2, []), (1, []), (2, []), (3, [])],
  [(1, []), (1, []), (1, []), (3, [])],
  [(1, [])],
  [(2, []), (2, []), (3, [])],
  [(1, []), (2, []), (3, [1264, 1266, 45, 91]), (3, [])],
  [(1, []), (3, [1069]), (2, []), (1, []), (3, [1311, 1312, 91]), (3, [])],
  [(2, []), (1, []), (3, [])],
  [(1, []), (3, [1069]), (2, []), (1, []), (1, []), (3, [])],
  [(1, []), (1, []), (1, []), (1, []), (3, [])],
  [(1, []), (1, [])],
  [(1, []), (2, []), (3, [])],
  [(1, []), (1, []), (1, []), (3, [])],
  [(1, []), (1, []), (1, [])],
  [(1, [])]]
theorem ok_X9_behind : am_ck 196 bk_X9_behind ck_X9_behind = true := am_ckD (by decide +kernel)
theorem ml_X9_behind : am_ml 196 = 7 := by decide +kernel
theorem pn_X9_behind : plainName (am_y 196).cls = true := by decide +kernel
/-- PaceBorderModel.isAt(II)Z: number 197, loop heads [] -/
noncomputable def bl_X9_isAt_0 : am_B := (0, [(.iload_n 0, []), (.iload_n 1, []), (.if_icmp .eq 10, [2, 1])], none)
noncomputable def bl_X9_isAt_1 : am_B := (5, [(.iload_n 0, []), (.iload_n 1, []), (.iconst 1, []), (.iadd, []), (.if_icmp .ne 7, [3, 2])], none)
noncomputable def bl_X9_isAt_2 : am_B := (12, [(.iconst 1, []), (.goto 4, [4])], none)
noncomputable def bl_X9_isAt_3 : am_B := (16, [(.iconst 0, [])], some 4)
noncomputable def bl_X9_isAt_4 : am_B := (17, [(.ireturn, [1])], none)
noncomputable def bk_X9_isAt : List am_B := [bl_X9_isAt_0, bl_X9_isAt_1, bl_X9_isAt_2, bl_X9_isAt_3, bl_X9_isAt_4]
noncomputable def ck_X9_isAt : List (List (Nat × List Nat)) := [[(1, []), (1, []), (3, [])],
  [(1, []), (1, []), (1, []), (1, []), (3, [])],
  [(1, []), (3, [])],
  [(1, [])],
  [(1, [])]]
theorem ok_X9_isAt : am_ck 197 bk_X9_isAt ck_X9_isAt = true := am_ckD (by decide +kernel)
theorem ml_X9_isAt : am_ml 197 = 2 := by decide +kernel
theorem pn_X9_isAt : plainName (am_y 197).cls = true := by decide +kernel
/-- PaceBorderModel.paysTo(IIII)I: number 198, loop heads [] -/
noncomputable def bl_X9_paysTo_0 : am_B := (0, [(.aload_n 0, []), (.getfield 16, [9, 3, 2]), (.iload_n 1, []), (.iaload, []), (.iload 4, []), (.imul, []), (.istore 5, []), (.iload_n 1, []), (.iload_n 3, []), (.if_icmp .ge 7, [2, 1])], none)
noncomputable def bl_X9_paysTo_1 : am_B := (16, [(.iconst 0, []), (.goto 4, [3])], none)
noncomputable def bl_X9_paysTo_2 : am_B := (20, [(.iconst 1, [])], some 3)
noncomputable def bl_X9_paysTo_3 : am_B := (21, [(.iload_n 2, []), (.if_icmp .ne 7, [5, 4])], none)
noncomputable def bl_X9_paysTo_4 : am_B := (25, [(.iconst 1, []), (.goto 4, [6])], none)
noncomputable def bl_X9_paysTo_5 : am_B := (29, [(.iconst 0, [])], some 6)
noncomputable def bl_X9_paysTo_6 : am_B := (30, [(.istore 6, []), (.aload_n 0, []), (.getfield 13, [9, 2, 2]), (.iload_n 1, []), (.iaload, []), (.tableswitch 77 1 5 #[34, 77, 77, 46, 60], [19, 7, 19, 19, 11, 15])], none)
noncomputable def bl_X9_paysTo_7 : am_B := (72, [(.iload 6, []), (.ifCond .eq 8, [9, 8])], none)
noncomputable def bl_X9_paysTo_8 : am_B := (77, [(.iload 5, []), (.goto 4, [10])], none)
noncomputable def bl_X9_paysTo_9 : am_B := (82, [(.iconst 0, [])], some 10)
noncomputable def bl_X9_paysTo_10 : am_B := (83, [(.ireturn, [0])], none)
noncomputable def bl_X9_paysTo_11 : am_B := (84, [(.iload 6, []), (.ifCond .eq 10, [13, 12])], none)
noncomputable def bl_X9_paysTo_12 : am_B := (89, [(.iconst 2, []), (.iload 5, []), (.imul, []), (.goto 4, [14])], none)
noncomputable def bl_X9_paysTo_13 : am_B := (96, [(.iconst 0, [])], some 14)
noncomputable def bl_X9_paysTo_14 : am_B := (97, [(.ireturn, [0])], none)
noncomputable def bl_X9_paysTo_15 : am_B := (98, [(.iload_n 3, []), (.iload_n 1, []), (.invokestatic 145, [197, 2, 0, 1]), (.ifCond .eq 10, [17, 16])], none)
noncomputable def bl_X9_paysTo_16 : am_B := (106, [(.iload 5, []), (.iconst 2, []), (.idiv, []), (.goto 4, [18])], none)
noncomputable def bl_X9_paysTo_17 : am_B := (113, [(.iconst 0, [])], some 18)
noncomputable def bl_X9_paysTo_18 : am_B := (114, [(.ireturn, [0])], none)
noncomputable def bl_X9_paysTo_19 : am_B := (115, [(.iconst 0, []), (.ireturn, [0])], none)
noncomputable def bk_X9_paysTo : List am_B := [bl_X9_paysTo_0, bl_X9_paysTo_1, bl_X9_paysTo_2, bl_X9_paysTo_3, bl_X9_paysTo_4, bl_X9_paysTo_5, bl_X9_paysTo_6, bl_X9_paysTo_7, bl_X9_paysTo_8, bl_X9_paysTo_9, bl_X9_paysTo_10, bl_X9_paysTo_11, bl_X9_paysTo_12, bl_X9_paysTo_13, bl_X9_paysTo_14, bl_X9_paysTo_15, bl_X9_paysTo_16, bl_X9_paysTo_17, bl_X9_paysTo_18, bl_X9_paysTo_19]
noncomputable def ck_X9_paysTo : List (List (Nat × List Nat)) := [[(1, []), (3, [1070]), (1, []), (1, []), (2, []), (1, []), (2, []), (1, []), (1, []), (3, [])],
  [(1, []), (3, [])],
  [(1, [])],
  [(1, []), (3, [])],
  [(1, []), (3, [])],
  [(1, [])],
  [(2, []), (1, []), (3, [1069]), (1, []), (1, []), (34, [])],
  [(2, []), (3, [])],
  [(2, []), (3, [])],
  [(1, [])],
  [(1, [])],
  [(2, []), (3, [])],
  [(1, []), (2, []), (1, []), (3, [])],
  [(1, [])],
  [(1, [])],
  [(1, []), (1, []), (3, [1280, 1281, 91]), (3, [])],
  [(2, []), (1, []), (1, []), (3, [])],
  [(1, [])],
  [(1, [])],
  [(1, []), (1, [])]]
theorem ok_X9_paysTo : am_ck 198 bk_X9_paysTo ck_X9_paysTo = true := am_ckD (by decide +kernel)
theorem ml_X9_paysTo : am_ml 198 = 7 := by decide +kernel
theorem pn_X9_paysTo : plainName (am_y 198).cls = true := by decide +kernel
/-- PaceBorderModel.isTaxed(I)Z: number 199, loop heads [] -/
noncomputable def bl_X9_isTaxed_0 : am_B := (0, [(.iload_n 0, []), (.bipush 10, []), (.irem, []), (.bipush 9, []), (.if_icmp .ne 13, [3, 1])], none)
noncomputable def bl_X9_isTaxed_1 : am_B := (9, [(.iload_n 0, []), (.bipush 40, []), (.if_icmp .ge 7, [3, 2])], none)
noncomputable def bl_X9_isTaxed_2 : am_B := (15, [(.iconst 1, []), (.goto 4, [4])], none)
noncomputable def bl_X9_isTaxed_3 : am_B := (19, [(.iconst 0, [])], some 4)
noncomputable def bl_X9_isTaxed_4 : am_B := (20, [(.ireturn, [1])], none)
noncomputable def bk_X9_isTaxed : List am_B := [bl_X9_isTaxed_0, bl_X9_isTaxed_1, bl_X9_isTaxed_2, bl_X9_isTaxed_3, bl_X9_isTaxed_4]
noncomputable def ck_X9_isTaxed : List (List (Nat × List Nat)) := [[(1, []), (2, []), (1, []), (2, []), (3, [])],
  [(1, []), (2, []), (3, [])],
  [(1, []), (3, [])],
  [(1, [])],
  [(1, [])]]
theorem ok_X9_isTaxed : am_ck 199 bk_X9_isTaxed ck_X9_isTaxed = true := am_ckD (by decide +kernel)
theorem ml_X9_isTaxed : am_ml 199 = 1 := by decide +kernel
theorem pn_X9_isTaxed : plainName (am_y 199).cls = true := by decide +kernel
/-- PaceBorderModel.goOn(III)V: number 200, loop heads [6] -/
noncomputable def bl_X9_goOn_0 : am_B := (0, [(.aload_n 0, []), (.getfield 7, [9, 0, 2]), (.iload_n 1, []), (.iconst 0, []), (.iadd, []), (.iaload, []), (.istore 4, []), (.aload_n 0, []), (.getfield 7, [9, 0, 2]), (.iload_n 1, []), (.iconst 1, []), (.iadd, []), (.iaload, []), (.istore 5, []), (.aload_n 0, []), (.iload 5, []), (.iload 4, []), (.iload_n 2, []), (.iload_n 3, []), (.invokevirtual 149, [196, 4, 9, 1]), (.istore 6, []), (.iload 6, []), (.iload 5, []), (.if_icmp .eq 34, [1005, 1])], none)
noncomputable def bl_X9_goOn_1 : am_B := (39, [(.aload_n 0, []), (.getfield 7, [9, 0, 2]), (.iload_n 1, []), (.iconst 4, []), (.iadd, []), (.iconst 3, []), (.iload 6, []), (.iload 5, []), (.if_icmp .ge 8, [3, 2])], none)
noncomputable def bl_X9_goOn_2 : am_B := (54, [(.iload 6, []), (.goto 5, [4])], none)
noncomputable def bl_X9_goOn_3 : am_B := (59, [(.iload 5, [])], some 4)
noncomputable def bl_X9_goOn_4 : am_B := (61, [(.imul, []), (.iadd, []), (.iconst 2, []), (.iadd, []), (.dup2, []), (.iaload, []), (.iconst 1, []), (.iadd, []), (.iastore, [])], some 1005)
noncomputable def bl_X9_goOn_5 : am_B := (70, [(.aload_n 0, []), (.getfield 7, [9, 0, 2]), (.iload_n 1, []), (.bipush 40, []), (.iadd, []), (.iload 4, []), (.iadd, []), (.iconst 4, []), (.iload_n 2, []), (.imul, []), (.iload_n 3, []), (.iadd, []), (.iastore, []), (.aload_n 0, []), (.getfield 7, [9, 0, 2]), (.iload_n 1, []), (.bipush 80, []), (.iadd, []), (.iload 4, []), (.iadd, []), (.bipush 10, []), (.aload_n 0, []), (.getfield 7, [9, 0, 2]), (.iload_n 1, []), (.iconst 2, []), (.iadd, []), (.iaload, []), (.imul, []), (.aload_n 0, []), (.getfield 7, [9, 0, 2]), (.iload_n 1, []), (.iconst 2, []), (.iadd, []), (.iconst 1, []), (.iadd, []), (.iaload, []), (.iadd, []), (.iastore, []), (.aload_n 0, []), (.getfield 7, [9, 0, 2]), (.iload_n 1, []), (.iconst 1, []), (.iadd, []), (.iload 6, []), (.iastore, []), (.iconst 0, []), (.istore 7, [])], some 1006)
noncomputable def bl_X9_goOn_6 : am_B := (134, [(.iload 7, []), (.aload_n 0, []), (.getfield 136, [9, 1, 0]), (.if_icmp .ge 87, [1009, 7])], none)
noncomputable def bl_X9_goOn_7 : am_B := (143, [(.iload 4, []), (.invokestatic 153, [199, 1, 0, 1]), (.ifCond .eq 79, [1009, 8])], none)
noncomputable def bl_X9_goOn_8 : am_B := (151, [(.aload_n 0, []), (.getfield 7, [9, 0, 2]), (.iload_n 1, []), (.iconst 4, []), (.iadd, []), (.iconst 3, []), (.iload 7, []), (.imul, []), (.iadd, []), (.dup2, []), (.iaload, []), (.aload_n 0, []), (.iload 7, []), (.iconst 0, []), (.iload 6, []), (.aload_n 0, []), (.getfield 7, [9, 0, 2]), (.iload_n 1, []), (.iconst 2, []), (.iadd, []), (.iaload, []), (.invokevirtual 156, [198, 4, 9, 1]), (.iadd, []), (.iastore, []), (.aload_n 0, []), (.getfield 7, [9, 0, 2]), (.iload_n 1, []), (.iconst 4, []), (.iadd, []), (.iconst 3, []), (.iload 7, []), (.imul, []), (.iadd, []), (.iconst 1, []), (.iadd, []), (.dup2, []), (.iaload, []), (.aload_n 0, []), (.iload 7, []), (.iconst 1, []), (.iload 6, []), (.aload_n 0, []), (.getfield 7, [9, 0, 2]), (.iload_n 1, []), (.iconst 2, []), (.iadd, []), (.iconst 1, []), (.iadd, []), (.iaload, []), (.invokevirtual 156, [198, 4, 9, 1]), (.iadd, []), (.iastore, []), (.iinc 7 1, []), (.goto (-90), [1006])], none)
noncomputable def bl_X9_goOn_9 : am_B := (227, [(.aload_n 0, []), (.getfield 7, [9, 0, 2]), (.iload_n 1, []), (.iconst 0, []), (.iadd, []), (.dup2, []), (.iaload, []), (.iconst 1, []), (.iadd, []), (.iastore, []), (.return_, [])], none)
noncomputable def bk_X9_goOn : List am_B := [bl_X9_goOn_0, bl_X9_goOn_1, bl_X9_goOn_2, bl_X9_goOn_3, bl_X9_goOn_4, bl_X9_goOn_5, bl_X9_goOn_6, bl_X9_goOn_7, bl_X9_goOn_8, bl_X9_goOn_9]
noncomputable def ck_X9_goOn : List (List (Nat × List Nat)) := [[(1, []), (3, [1067]), (1, []), (1, []), (1, []), (1, []), (2, []), (1, []), (3, [1067]), (1, []), (1, []), (1, []), (1, []), (2, []), (1, []), (2, []), (2, []), (1, []), (1, []), (3, [1307, 1309, 51, 91]), (2, []), (2, []), (2, []), (3, [])],
  [(1, []), (3, [1067]), (1, []), (1, []), (1, []), (1, []), (2, []), (2, []), (3, [])],
  [(2, []), (3, [])],
  [(2, [])],
  [(1, []), (1, []), (1, []), (1, []), (1, []), (1, []), (1, []), (1, []), (1, [])],
  [(1, []), (3, [1067]), (1, []), (2, []), (1, []), (2, []), (1, []), (1, []), (1, []), (1, []), (1, []), (1, []), (1, []), (1, []), (3, [1067]), (1, []), (2, []), (1, []), (2, []), (1, []), (2, []), (1, []), (3, [1067]), (1, []), (1, []), (1, []), (1, []), (1, []), (1, []), (3, [1067]), (1, []), (1, []), (1, []), (1, []), (1, []), (1, []), (1, []), (1, []), (1, []), (3, [1067]), (1, []), (1, []), (1, []), (2, []), (1, []), (1, []), (2, [])],
  [(2, []), (1, []), (3, [1068]), (3, [])],
  [(2, []), (3, [1314, 1315, 91]), (3, [])],
  [(1, []), (3, [1067]), (1, []), (1, []), (1, []), (1, []), (2, []), (1, []), (1, []), (1, []), (1, []), (1, []), (2, []), (1, []), (2, []), (1, []), (3, [1067]), (1, []), (1, []), (1, []), (1, []), (3, [1287, 1289, 49, 91]), (1, []), (1, []), (1, []), (3, [1067]), (1, []), (1, []), (1, []), (1, []), (2, []), (1, []), (1, []), (1, []), (1, []), (1, []), (1, []), (1, []), (2, []), (1, []), (2, []), (1, []), (3, [1067]), (1, []), (1, []), (1, []), (1, []), (1, []), (1, []), (3, [1287, 1289, 49, 91]), (1, []), (1, []), (3, []), (3, [])],
  [(1, []), (3, [1067]), (1, []), (1, []), (1, []), (1, []), (1, []), (1, []), (1, []), (1, []), (1, [])]]
theorem ok_X9_goOn : am_ck 200 bk_X9_goOn ck_X9_goOn = true := am_ckD (by decide +kernel)
theorem ml_X9_goOn : am_ml 200 = 8 := by decide +kernel
theorem pn_X9_goOn : plainName (am_y 200).cls = true := by decide +kernel
/-- PaceBorderModel.strip(II)I: number 201, loop heads [] -/
noncomputable def bl_X9_strip_0 : am_B := (0, [(.aload_n 0, []), (.iload_n 1, []), (.invokevirtual 139, [194, 1, 9, 1]), (.ifCond .eq 28, [3, 1])], none)
noncomputable def bl_X9_strip_1 : am_B := (8, [(.iload_n 2, []), (.i2l, []), (.lconst 0, []), (.ldc2_w 67, [5]), (.invokestatic 69, [168, 3, 0, 1]), (.ifCond .eq 16, [3, 2])], none)
noncomputable def bl_X9_strip_2 : am_B := (20, [(.aload_n 0, []), (.aload_n 0, []), (.iload_n 1, []), (.iload_n 2, []), (.invokevirtual 159, [202, 2, 9, 1]), (.invokevirtual 91, [171, 1, 9, 1]), (.goto 4, [4])], none)
noncomputable def bl_X9_strip_3 : am_B := (33, [(.iconst (-1), [])], some 4)
noncomputable def bl_X9_strip_4 : am_B := (34, [(.ireturn, [0])], none)
noncomputable def bk_X9_strip : List am_B := [bl_X9_strip_0, bl_X9_strip_1, bl_X9_strip_2, bl_X9_strip_3, bl_X9_strip_4]
noncomputable def ck_X9_strip : List (List (Nat × List Nat)) := [[(1, []), (1, []), (3, [1264, 1266, 45, 91]), (3, [])],
  [(1, []), (1, []), (1, []), (3, [1168]), (3, [1169, 1170, 91]), (3, [])],
  [(1, []), (1, []), (1, []), (1, []), (3, [1268, 1270, 46, 91]), (3, [1188, 1190, 36, 91]), (3, [])],
  [(1, [])],
  [(1, [])]]
theorem ok_X9_strip : am_ck 201 bk_X9_strip ck_X9_strip = true := am_ckD (by decide +kernel)
theorem ml_X9_strip : am_ml 201 = 3 := by decide +kernel
theorem pn_X9_strip : plainName (am_y 201).cls = true := by decide +kernel
/-- PaceBorderModel.toldOf(II)I: number 202, loop heads [] -/
noncomputable def bl_X9_toldOf_0 : am_B := (0, [(.iload_n 2, []), (.tableswitch 57 0 2 #[27, 34, 41], [7, 1, 2, 3])], none)
noncomputable def bl_X9_toldOf_1 : am_B := (28, [(.aload_n 0, []), (.getfield 13, [9, 2, 2]), (.iload_n 1, []), (.iaload, []), (.ireturn, [0])], none)
noncomputable def bl_X9_toldOf_2 : am_B := (35, [(.aload_n 0, []), (.getfield 16, [9, 3, 2]), (.iload_n 1, []), (.iaload, []), (.ireturn, [0])], none)
noncomputable def bl_X9_toldOf_3 : am_B := (42, [(.iload_n 1, []), (.aload_n 0, []), (.getfield 7, [9, 0, 2]), (.iconst 1, []), (.iaload, []), (.if_icmp .ge 7, [5, 4])], none)
noncomputable def bl_X9_toldOf_4 : am_B := (52, [(.iconst 0, []), (.goto 4, [6])], none)
noncomputable def bl_X9_toldOf_5 : am_B := (56, [(.iconst 1, [])], some 6)
noncomputable def bl_X9_toldOf_6 : am_B := (57, [(.ireturn, [0])], none)
noncomputable def bl_X9_toldOf_7 : am_B := (58, [(.aload_n 0, []), (.getfield 7, [9, 0, 2]), (.iconst 4, []), (.iconst 3, []), (.iload_n 1, []), (.imul, []), (.iadd, []), (.iload_n 2, []), (.iadd, []), (.iconst 3, []), (.isub, []), (.iaload, []), (.ireturn, [0])], none)
noncomputable def bk_X9_toldOf : List am_B := [bl_X9_toldOf_0, bl_X9_toldOf_1, bl_X9_toldOf_2, bl_X9_toldOf_3, bl_X9_toldOf_4, bl_X9_toldOf_5, bl_X9_toldOf_6, bl_X9_toldOf_7]
noncomputable def ck_X9_toldOf : List (List (Nat × List Nat)) := [[(1, []), (27, [])],
  [(1, []), (3, [1069]), (1, []), (1, []), (1, [])],
  [(1, []), (3, [1070]), (1, []), (1, []), (1, [])],
  [(1, []), (1, []), (3, [1067]), (1, []), (1, []), (3, [])],
  [(1, []), (3, [])],
  [(1, [])],
  [(1, [])],
  [(1, []), (3, [1067]), (1, []), (1, []), (1, []), (1, []), (1, []), (1, []), (1, []), (1, []), (1, []), (1, []), (1, [])]]
theorem ok_X9_toldOf : am_ck 202 bk_X9_toldOf ck_X9_toldOf = true := am_ckD (by decide +kernel)
theorem ml_X9_toldOf : am_ml 202 = 3 := by decide +kernel
theorem pn_X9_toldOf : plainName (am_y 202).cls = true := by decide +kernel
/-- PaceBorderModel.isOf(II)Z: number 203, loop heads [] -/
noncomputable def bl_X9_isOf_0 : am_B := (0, [(.aload_n 0, []), (.getfield 13, [9, 2, 2]), (.iload_n 1, []), (.iaload, []), (.iload_n 2, []), (.if_icmp .eq 33, [5, 1])], none)
noncomputable def bl_X9_isOf_1 : am_B := (10, [(.iload_n 2, []), (.iconst 1, []), (.if_icmp .ne 13, [3, 2])], none)
noncomputable def bl_X9_isOf_2 : am_B := (15, [(.aload_n 0, []), (.getfield 13, [9, 2, 2]), (.iload_n 1, []), (.iaload, []), (.iconst 4, []), (.if_icmp .eq 18, [5, 3])], none)
noncomputable def bl_X9_isOf_3 : am_B := (25, [(.iload_n 2, []), (.iconst 2, []), (.if_icmp .ne 17, [6, 4])], none)
noncomputable def bl_X9_isOf_4 : am_B := (30, [(.aload_n 0, []), (.getfield 13, [9, 2, 2]), (.iload_n 1, []), (.iaload, []), (.iconst 5, []), (.if_icmp .ne 7, [6, 5])], none)
noncomputable def bl_X9_isOf_5 : am_B := (40, [(.iconst 1, []), (.goto 4, [7])], none)
noncomputable def bl_X9_isOf_6 : am_B := (44, [(.iconst 0, [])], some 7)
noncomputable def bl_X9_isOf_7 : am_B := (45, [(.ireturn, [1])], none)
noncomputable def bk_X9_isOf : List am_B := [bl_X9_isOf_0, bl_X9_isOf_1, bl_X9_isOf_2, bl_X9_isOf_3, bl_X9_isOf_4, bl_X9_isOf_5, bl_X9_isOf_6, bl_X9_isOf_7]
noncomputable def ck_X9_isOf : List (List (Nat × List Nat)) := [[(1, []), (3, [1069]), (1, []), (1, []), (1, []), (3, [])],
  [(1, []), (1, []), (3, [])],
  [(1, []), (3, [1069]), (1, []), (1, []), (1, []), (3, [])],
  [(1, []), (1, []), (3, [])],
  [(1, []), (3, [1069]), (1, []), (1, []), (1, []), (3, [])],
  [(1, []), (3, [])],
  [(1, [])],
  [(1, [])]]
theorem ok_X9_isOf : am_ck 203 bk_X9_isOf ck_X9_isOf = true := am_ckD (by decide +kernel)
theorem ml_X9_isOf : am_ml 203 = 3 := by decide +kernel
theorem pn_X9_isOf : plainName (am_y 203).cls = true := by decide +kernel
/-- PaceBorderModel.paysNow(I)I: number 204, loop heads [] -/
noncomputable def bl_X9_paysNow_0 : am_B := (0, [(.aload_n 0, []), (.iload_n 1, []), (.iconst 0, []), (.aload_n 0, []), (.getfield 7, [9, 0, 2]), (.iconst 1, []), (.iaload, []), (.aload_n 0, []), (.getfield 7, [9, 0, 2]), (.iconst 2, []), (.iaload, []), (.invokevirtual 156, [198, 4, 9, 1]), (.aload_n 0, []), (.iload_n 1, []), (.iconst 1, []), (.aload_n 0, []), (.getfield 7, [9, 0, 2]), (.iconst 1, []), (.iaload, []), (.aload_n 0, []), (.getfield 7, [9, 0, 2]), (.iconst 3, []), (.iaload, []), (.invokevirtual 156, [198, 4, 9, 1]), (.iadd, []), (.ireturn, [0])], none)
noncomputable def bk_X9_paysNow : List am_B := [bl_X9_paysNow_0]
noncomputable def ck_X9_paysNow : List (List (Nat × List Nat)) := [[(1, []), (1, []), (1, []), (1, []), (3, [1067]), (1, []), (1, []), (1, []), (3, [1067]), (1, []), (1, []), (3, [1287, 1289, 49, 91]), (1, []), (1, []), (1, []), (1, []), (3, [1067]), (1, []), (1, []), (1, []), (3, [1067]), (1, []), (1, []), (3, [1287, 1289, 49, 91]), (1, []), (1, [])]]
theorem ok_X9_paysNow : am_ck 204 bk_X9_paysNow ck_X9_paysNow = true := am_ckD (by decide +kernel)
theorem ml_X9_paysNow : am_ml 204 = 2 := by decide +kernel
theorem pn_X9_paysNow : plainName (am_y 204).cls = true := by decide +kernel
/-- PaceBorderModel.mark(II)I: number 205, loop heads [] -/
noncomputable def bl_X9_mark_0 : am_B := (0, [(.aload_n 0, []), (.iload_n 1, []), (.invokevirtual 139, [194, 1, 9, 1]), (.ifCond .eq 15, [2, 1])], none)
noncomputable def bl_X9_mark_1 : am_B := (8, [(.iload_n 2, []), (.i2l, []), (.lconst 1, []), (.ldc2_w 67, [5]), (.invokestatic 69, [168, 3, 0, 1]), (.ifCond .ne 5, [3, 2])], none)
noncomputable def bl_X9_mark_2 : am_B := (20, [(.iconst (-1), []), (.ireturn, [0])], none)
noncomputable def bl_X9_mark_3 : am_B := (22, [(.aload_n 0, []), (.iload_n 1, []), (.iload_n 2, []), (.invokevirtual 162, [203, 2, 9, 1]), (.ifCond .ne 9, [5, 4])], none)
noncomputable def bl_X9_mark_4 : am_B := (31, [(.aload_n 0, []), (.iconst 3, []), (.invokevirtual 79, [170, 1, 9, 1]), (.ireturn, [0])], none)
noncomputable def bl_X9_mark_5 : am_B := (37, [(.iload_n 2, []), (.tableswitch 70 2 4 #[26, 45, 62], [15, 6, 10, 14])], none)
noncomputable def bl_X9_mark_6 : am_B := (64, [(.aload_n 0, []), (.getfield 7, [9, 0, 2]), (.iconst 1, []), (.iaload, []), (.iload_n 1, []), (.invokestatic 145, [197, 2, 0, 1]), (.ifCond .eq 7, [8, 7])], none)
noncomputable def bl_X9_mark_7 : am_B := (77, [(.iconst 1, []), (.goto 4, [9])], none)
noncomputable def bl_X9_mark_8 : am_B := (81, [(.iconst 0, [])], some 9)
noncomputable def bl_X9_mark_9 : am_B := (82, [(.ireturn, [0])], none)
noncomputable def bl_X9_mark_10 : am_B := (83, [(.aload_n 0, []), (.getfield 7, [9, 0, 2]), (.iconst 0, []), (.iaload, []), (.iconst 2, []), (.irem, []), (.ifCond .ne 7, [12, 11])], none)
noncomputable def bl_X9_mark_11 : am_B := (94, [(.iconst 1, []), (.goto 4, [13])], none)
noncomputable def bl_X9_mark_12 : am_B := (98, [(.iconst 0, [])], some 13)
noncomputable def bl_X9_mark_13 : am_B := (99, [(.ireturn, [0])], none)
noncomputable def bl_X9_mark_14 : am_B := (100, [(.aload_n 0, []), (.iload_n 1, []), (.invokevirtual 165, [204, 1, 9, 1]), (.iconst 2, []), (.idiv, []), (.ireturn, [0])], none)
noncomputable def bl_X9_mark_15 : am_B := (108, [(.aload_n 0, []), (.iload_n 1, []), (.invokevirtual 165, [204, 1, 9, 1]), (.ireturn, [0])], none)
noncomputable def bk_X9_mark : List am_B := [bl_X9_mark_0, bl_X9_mark_1, bl_X9_mark_2, bl_X9_mark_3, bl_X9_mark_4, bl_X9_mark_5, bl_X9_mark_6, bl_X9_mark_7, bl_X9_mark_8, bl_X9_mark_9, bl_X9_mark_10, bl_X9_mark_11, bl_X9_mark_12, bl_X9_mark_13, bl_X9_mark_14, bl_X9_mark_15]
noncomputable def ck_X9_mark : List (List (Nat × List Nat)) := [[(1, []), (1, []), (3, [1264, 1266, 45, 91]), (3, [])],
  [(1, []), (1, []), (1, []), (3, [1168]), (3, [1169, 1170, 91]), (3, [])],
  [(1, []), (1, [])],
  [(1, []), (1, []), (1, []), (3, [1276, 1278, 47, 91]), (3, [])],
  [(1, []), (1, []), (3, [1172, 1174, 33, 91]), (1, [])],
  [(1, []), (26, [])],
  [(1, []), (3, [1067]), (1, []), (1, []), (1, []), (3, [1280, 1281, 91]), (3, [])],
  [(1, []), (3, [])],
  [(1, [])],
  [(1, [])],
  [(1, []), (3, [1067]), (1, []), (1, []), (1, []), (1, []), (3, [])],
  [(1, []), (3, [])],
  [(1, [])],
  [(1, [])],
  [(1, []), (1, []), (3, [1283, 1285, 48, 91]), (1, []), (1, []), (1, [])],
  [(1, []), (1, []), (3, [1283, 1285, 48, 91]), (1, [])]]
theorem ok_X9_mark : am_ck 205 bk_X9_mark ck_X9_mark = true := am_ckD (by decide +kernel)
theorem ml_X9_mark : am_ml 205 = 3 := by decide +kernel
theorem pn_X9_mark : plainName (am_y 205).cls = true := by decide +kernel
/-- PaceBorderModel.rate(II)I: number 206, loop heads [] -/
noncomputable def bl_X9_rate_0 : am_B := (0, [(.iload_n 1, []), (.i2l, []), (.lconst 0, []), (.lconst 1, []), (.invokestatic 69, [168, 3, 0, 1]), (.ifCond .eq 15, [2, 1])], none)
noncomputable def bl_X9_rate_1 : am_B := (10, [(.iload_n 2, []), (.i2l, []), (.lconst 1, []), (.ldc2_w 168, [9]), (.invokestatic 69, [168, 3, 0, 1]), (.ifCond .ne 5, [3, 2])], none)
noncomputable def bl_X9_rate_2 : am_B := (22, [(.iconst (-1), []), (.ireturn, [0])], none)
noncomputable def bl_X9_rate_3 : am_B := (24, [(.aload_n 0, []), (.getfield 136, [9, 1, 0]), (.ifCond .ne 6, [5, 4])], none)
noncomputable def bl_X9_rate_4 : am_B := (31, [(.bipush (-4), []), (.ireturn, [0])], none)
noncomputable def bl_X9_rate_5 : am_B := (34, [(.aload_n 0, []), (.getfield 7, [9, 0, 2]), (.iconst 2, []), (.iload_n 1, []), (.iadd, []), (.iaload, []), (.istore_n 3, []), (.aload_n 0, []), (.getfield 7, [9, 0, 2]), (.iconst 2, []), (.iload_n 1, []), (.iadd, []), (.iload_n 2, []), (.iastore, []), (.iload_n 3, []), (.ireturn, [0])], none)
noncomputable def bk_X9_rate : List am_B := [bl_X9_rate_0, bl_X9_rate_1, bl_X9_rate_2, bl_X9_rate_3, bl_X9_rate_4, bl_X9_rate_5]
noncomputable def ck_X9_rate : List (List (Nat × List Nat)) := [[(1, []), (1, []), (1, []), (1, []), (3, [1169, 1170, 91]), (3, [])],
  [(1, []), (1, []), (1, []), (3, [1295]), (3, [1169, 1170, 91]), (3, [])],
  [(1, []), (1, [])],
  [(1, []), (3, [1068]), (3, [])],
  [(2, []), (1, [])],
  [(1, []), (3, [1067]), (1, []), (1, []), (1, []), (1, []), (1, []), (1, []), (3, [1067]), (1, []), (1, []), (1, []), (1, []), (1, []), (1, []), (1, [])]]
theorem ok_X9_rate : am_ck 206 bk_X9_rate ck_X9_rate = true := am_ckD (by decide +kernel)
theorem ml_X9_rate : am_ml 206 = 4 := by decide +kernel
theorem pn_X9_rate : plainName (am_y 206).cls = true := by decide +kernel
/-- PaceBorderModel.isSaid(I)Z: number 207, loop heads [] -/
noncomputable def bl_X9_isSaid_0 : am_B := (0, [(.iload_n 0, []), (.i2l, []), (.lconst 0, []), (.ldc2_w 73, [3]), (.invokestatic 69, [168, 3, 0, 1]), (.ireturn, [1])], none)
noncomputable def bk_X9_isSaid : List am_B := [bl_X9_isSaid_0]
noncomputable def ck_X9_isSaid : List (List (Nat × List Nat)) := [[(1, []), (1, []), (1, []), (3, [1219]), (3, [1169, 1170, 91]), (1, [])]]
theorem ok_X9_isSaid : am_ck 207 bk_X9_isSaid ck_X9_isSaid = true := am_ckD (by decide +kernel)
theorem ml_X9_isSaid : am_ml 207 = 1 := by decide +kernel
theorem pn_X9_isSaid : plainName (am_y 207).cls = true := by decide +kernel
/-- PaceBorderModel.day(II)I: number 208, loop heads [] -/
noncomputable def bl_X9_day_0 : am_B := (0, [(.iload_n 1, []), (.invokestatic 170, [207, 1, 0, 1]), (.ifCond .eq 10, [2, 1])], none)
noncomputable def bl_X9_day_1 : am_B := (7, [(.iload_n 2, []), (.invokestatic 170, [207, 1, 0, 1]), (.ifCond .ne 5, [3, 2])], none)
noncomputable def bl_X9_day_2 : am_B := (14, [(.iconst (-1), []), (.ireturn, [0])], none)
noncomputable def bl_X9_day_3 : am_B := (16, [(.aload_n 0, []), (.getfield 136, [9, 1, 0]), (.ifCond .ne 6, [5, 4])], none)
noncomputable def bl_X9_day_4 : am_B := (23, [(.bipush (-4), []), (.ireturn, [0])], none)
noncomputable def bl_X9_day_5 : am_B := (26, [(.aload_n 0, []), (.getfield 7, [9, 0, 2]), (.iconst 0, []), (.iaload, []), (.bipush 40, []), (.if_icmp .ne 6, [7, 6])], none)
noncomputable def bl_X9_day_6 : am_B := (37, [(.bipush (-2), []), (.ireturn, [0])], none)
noncomputable def bl_X9_day_7 : am_B := (40, [(.aload_n 0, []), (.iconst 0, []), (.iload_n 1, []), (.iload_n 2, []), (.invokevirtual 173, [200, 3, 9, 0]), (.aload_n 0, []), (.getfield 7, [9, 0, 2]), (.iconst 1, []), (.iaload, []), (.ireturn, [0])], none)
noncomputable def bk_X9_day : List am_B := [bl_X9_day_0, bl_X9_day_1, bl_X9_day_2, bl_X9_day_3, bl_X9_day_4, bl_X9_day_5, bl_X9_day_6, bl_X9_day_7]
noncomputable def ck_X9_day : List (List (Nat × List Nat)) := [[(1, []), (3, [1300, 1301, 91]), (3, [])],
  [(1, []), (3, [1300, 1301, 91]), (3, [])],
  [(1, []), (1, [])],
  [(1, []), (3, [1068]), (3, [])],
  [(2, []), (1, [])],
  [(1, []), (3, [1067]), (1, []), (1, []), (2, []), (3, [])],
  [(2, []), (1, [])],
  [(1, []), (1, []), (1, []), (1, []), (3, [1303, 1305, 50, 91]), (1, []), (3, [1067]), (1, []), (1, []), (1, [])]]
theorem ok_X9_day : am_ck 208 bk_X9_day ck_X9_day = true := am_ckD (by decide +kernel)
theorem ml_X9_day : am_ml 208 = 3 := by decide +kernel
theorem pn_X9_day : plainName (am_y 208).cls = true := by decide +kernel
/-- PaceBorderModel.copyLand(II)V: number 209, loop heads [1] -/
noncomputable def bl_X9_copyLand_0 : am_B := (0, [(.iconst 0, []), (.istore_n 3, [])], some 1001)
noncomputable def bl_X9_copyLand_1 : am_B := (2, [(.iload_n 3, []), (.bipush 121, []), (.if_icmp .ge 25, [1003, 2])], none)
noncomputable def bl_X9_copyLand_2 : am_B := (8, [(.aload_n 0, []), (.getfield 7, [9, 0, 2]), (.iload_n 2, []), (.iload_n 3, []), (.iadd, []), (.aload_n 0, []), (.getfield 7, [9, 0, 2]), (.iload_n 1, []), (.iload_n 3, []), (.iadd, []), (.iaload, []), (.iastore, []), (.iinc 3 1, []), (.goto (-25), [1001])], none)
noncomputable def bl_X9_copyLand_3 : am_B := (30, [(.return_, [])], none)
noncomputable def bk_X9_copyLand : List am_B := [bl_X9_copyLand_0, bl_X9_copyLand_1, bl_X9_copyLand_2, bl_X9_copyLand_3]
noncomputable def ck_X9_copyLand : List (List (Nat × List Nat)) := [[(1, []), (1, [])],
  [(1, []), (2, []), (3, [])],
  [(1, []), (3, [1067]), (1, []), (1, []), (1, []), (1, []), (3, [1067]), (1, []), (1, []), (1, []), (1, []), (1, []), (3, []), (3, [])],
  [(1, [])]]
theorem ok_X9_copyLand : am_ck 209 bk_X9_copyLand ck_X9_copyLand = true := am_ckD (by decide +kernel)
theorem ml_X9_copyLand : am_ml 209 = 4 := by decide +kernel
theorem pn_X9_copyLand : plainName (am_y 209).cls = true := by decide +kernel
/-- PaceBorderModel.layAhead(I)V: number 210, loop heads [1, 4] -/
noncomputable def bl_X9_layAhead_0 : am_B := (0, [(.aload_n 0, []), (.iconst 0, []), (.sipush 484, []), (.invokevirtual 177, [209, 2, 9, 0]), (.iconst 0, []), (.istore_n 2, [])], some 1001)
noncomputable def bl_X9_layAhead_1 : am_B := (10, [(.iload_n 2, []), (.bipush 40, []), (.if_icmp .ge 20, [1003, 2])], none)
noncomputable def bl_X9_layAhead_2 : am_B := (16, [(.aload_n 0, []), (.getfield 7, [9, 0, 2]), (.sipush 484, []), (.iload_n 2, []), (.iadd, []), (.iconst 0, []), (.iastore, []), (.iinc 2 1, []), (.goto (-20), [1001])], none)
noncomputable def bl_X9_layAhead_3 : am_B := (33, [(.aload_n 0, []), (.getfield 7, [9, 0, 2]), (.sipush 485, []), (.aload_n 0, []), (.getfield 7, [9, 0, 2]), (.bipush 120, []), (.iaload, []), (.iastore, []), (.iconst 0, []), (.istore_n 2, [])], some 1004)
noncomputable def bl_X9_layAhead_4 : am_B := (50, [(.iload_n 2, []), (.iload_n 1, []), (.if_icmp .ge 78, [1006, 5])], none)
noncomputable def bl_X9_layAhead_5 : am_B := (55, [(.aload_n 0, []), (.getfield 7, [9, 0, 2]), (.sipush 486, []), (.aload_n 0, []), (.getfield 7, [9, 0, 2]), (.bipush 80, []), (.iload_n 2, []), (.iadd, []), (.iaload, []), (.bipush 10, []), (.idiv, []), (.iastore, []), (.aload_n 0, []), (.getfield 7, [9, 0, 2]), (.sipush 487, []), (.aload_n 0, []), (.getfield 7, [9, 0, 2]), (.bipush 80, []), (.iload_n 2, []), (.iadd, []), (.iaload, []), (.bipush 10, []), (.irem, []), (.iastore, []), (.aload_n 0, []), (.sipush 484, []), (.aload_n 0, []), (.getfield 7, [9, 0, 2]), (.bipush 40, []), (.iload_n 2, []), (.iadd, []), (.iaload, []), (.iconst 4, []), (.idiv, []), (.aload_n 0, []), (.getfield 7, [9, 0, 2]), (.bipush 40, []), (.iload_n 2, []), (.iadd, []), (.iaload, []), (.iconst 4, []), (.irem, []), (.invokevirtual 173, [200, 3, 9, 0]), (.iinc 2 1, []), (.goto (-77), [1004])], none)
noncomputable def bl_X9_layAhead_6 : am_B := (130, [(.aload_n 0, []), (.getfield 7, [9, 0, 2]), (.sipush 486, []), (.aload_n 0, []), (.getfield 7, [9, 0, 2]), (.iconst 2, []), (.iaload, []), (.iastore, []), (.aload_n 0, []), (.getfield 7, [9, 0, 2]), (.sipush 487, []), (.aload_n 0, []), (.getfield 7, [9, 0, 2]), (.iconst 3, []), (.iaload, []), (.iastore, []), (.return_, [])], none)
noncomputable def bk_X9_layAhead : List am_B := [bl_X9_layAhead_0, bl_X9_layAhead_1, bl_X9_layAhead_2, bl_X9_layAhead_3, bl_X9_layAhead_4, bl_X9_layAhead_5, bl_X9_layAhead_6]
noncomputable def ck_X9_layAhead : List (List (Nat × List Nat)) := [[(1, []), (1, []), (3, []), (3, [1325, 1327, 53, 91]), (1, []), (1, [])],
  [(1, []), (2, []), (3, [])],
  [(1, []), (3, [1067]), (3, []), (1, []), (1, []), (1, []), (1, []), (3, []), (3, [])],
  [(1, []), (3, [1067]), (3, []), (1, []), (3, [1067]), (2, []), (1, []), (1, []), (1, []), (1, [])],
  [(1, []), (1, []), (3, [])],
  [(1, []), (3, [1067]), (3, []), (1, []), (3, [1067]), (2, []), (1, []), (1, []), (1, []), (2, []), (1, []), (1, []), (1, []), (3, [1067]), (3, []), (1, []), (3, [1067]), (2, []), (1, []), (1, []), (1, []), (2, []), (1, []), (1, []), (1, []), (3, []), (1, []), (3, [1067]), (2, []), (1, []), (1, []), (1, []), (1, []), (1, []), (1, []), (3, [1067]), (2, []), (1, []), (1, []), (1, []), (1, []), (1, []), (3, [1303, 1305, 50, 91]), (3, []), (3, [])],
  [(1, []), (3, [1067]), (3, []), (1, []), (3, [1067]), (1, []), (1, []), (1, []), (1, []), (3, [1067]), (3, []), (1, []), (3, [1067]), (1, []), (1, []), (1, []), (1, [])]]
theorem ok_X9_layAhead : am_ck 210 bk_X9_layAhead ck_X9_layAhead = true := am_ckD (by decide +kernel)
theorem ml_X9_layAhead : am_ml 210 = 3 := by decide +kernel
theorem pn_X9_layAhead : plainName (am_y 210).cls = true := by decide +kernel
/-- PaceBorderModel.undo(I)I: number 211, loop heads [] -/
noncomputable def bl_X9_undo_0 : am_B := (0, [(.iload_n 1, []), (.i2l, []), (.lconst 0, []), (.aload_n 0, []), (.getfield 7, [9, 0, 2]), (.iconst 0, []), (.iaload, []), (.i2l, []), (.invokestatic 69, [168, 3, 0, 1]), (.ifCond .ne 5, [2, 1])], none)
noncomputable def bl_X9_undo_1 : am_B := (16, [(.iconst (-1), []), (.ireturn, [0])], none)
noncomputable def bl_X9_undo_2 : am_B := (18, [(.aload_n 0, []), (.getfield 7, [9, 0, 2]), (.iconst 0, []), (.iaload, []), (.iload_n 1, []), (.isub, []), (.istore_n 2, []), (.aload_n 0, []), (.iload_n 1, []), (.invokevirtual 180, [210, 1, 9, 0]), (.aload_n 0, []), (.sipush 484, []), (.iconst 0, []), (.invokevirtual 177, [209, 2, 9, 0]), (.iload_n 2, []), (.ireturn, [0])], none)
noncomputable def bk_X9_undo : List am_B := [bl_X9_undo_0, bl_X9_undo_1, bl_X9_undo_2]
noncomputable def ck_X9_undo : List (List (Nat × List Nat)) := [[(1, []), (1, []), (1, []), (1, []), (3, [1067]), (1, []), (1, []), (1, []), (3, [1169, 1170, 91]), (3, [])],
  [(1, []), (1, [])],
  [(1, []), (3, [1067]), (1, []), (1, []), (1, []), (1, []), (1, []), (1, []), (1, []), (3, [1321, 1323, 52, 91]), (1, []), (3, []), (1, []), (3, [1325, 1327, 53, 91]), (1, []), (1, [])]]
theorem ok_X9_undo : am_ck 211 bk_X9_undo ck_X9_undo = true := am_ckD (by decide +kernel)
theorem ml_X9_undo : am_ml 211 = 3 := by decide +kernel
theorem pn_X9_undo : plainName (am_y 211).cls = true := by decide +kernel
/-- PaceBorderModel.border()I: number 212, loop heads [] -/
noncomputable def bl_X9_border_0 : am_B := (0, [(.aload_n 0, []), (.getfield 136, [9, 1, 0]), (.ifCond .ne 6, [2, 1])], none)
noncomputable def bl_X9_border_1 : am_B := (7, [(.bipush (-4), []), (.ireturn, [0])], none)
noncomputable def bl_X9_border_2 : am_B := (10, [(.aload_n 0, []), (.aload_n 0, []), (.getfield 7, [9, 0, 2]), (.iconst 0, []), (.iaload, []), (.putfield 64, [9, 8, 0, 0]), (.aload_n 0, []), (.getfield 7, [9, 0, 2]), (.iconst 1, []), (.iaload, []), (.ireturn, [0])], none)
noncomputable def bk_X9_border : List am_B := [bl_X9_border_0, bl_X9_border_1, bl_X9_border_2]
noncomputable def ck_X9_border : List (List (Nat × List Nat)) := [[(1, []), (3, [1068]), (3, [])],
  [(2, []), (1, [])],
  [(1, []), (1, []), (3, [1067]), (1, []), (1, []), (3, [1075]), (1, []), (3, [1067]), (1, []), (1, []), (1, [])]]
theorem ok_X9_border : am_ck 212 bk_X9_border ck_X9_border = true := am_ckD (by decide +kernel)
theorem ml_X9_border : am_ml 212 = 1 := by decide +kernel
theorem pn_X9_border : plainName (am_y 212).cls = true := by decide +kernel
/-- PaceBorderModel.lain(I)I: number 213, loop heads [] -/
noncomputable def bl_X9_lain_0 : am_B := (0, [(.iload_n 1, []), (.i2l, []), (.lconst 0, []), (.aload_n 0, []), (.getfield 7, [9, 0, 2]), (.iconst 0, []), (.iaload, []), (.i2l, []), (.invokestatic 69, [168, 3, 0, 1]), (.ifCond .ne 5, [2, 1])], none)
noncomputable def bl_X9_lain_1 : am_B := (16, [(.iconst (-1), []), (.ireturn, [0])], none)
noncomputable def bl_X9_lain_2 : am_B := (18, [(.aload_n 0, []), (.iload_n 1, []), (.invokevirtual 180, [210, 1, 9, 0]), (.aload_n 0, []), (.getfield 7, [9, 0, 2]), (.sipush 485, []), (.iaload, []), (.ireturn, [0])], none)
noncomputable def bk_X9_lain : List am_B := [bl_X9_lain_0, bl_X9_lain_1, bl_X9_lain_2]
noncomputable def ck_X9_lain : List (List (Nat × List Nat)) := [[(1, []), (1, []), (1, []), (1, []), (3, [1067]), (1, []), (1, []), (1, []), (3, [1169, 1170, 91]), (3, [])],
  [(1, []), (1, [])],
  [(1, []), (1, []), (3, [1321, 1323, 52, 91]), (1, []), (3, [1067]), (3, []), (1, []), (1, [])]]
theorem ok_X9_lain : am_ck 213 bk_X9_lain ck_X9_lain = true := am_ckD (by decide +kernel)
theorem ml_X9_lain : am_ml 213 = 2 := by decide +kernel
theorem pn_X9_lain : plainName (am_y 213).cls = true := by decide +kernel
/-- PaceBorderModel.got(I)I: number 214, loop heads [3] -/
noncomputable def bl_X9_got_0 : am_B := (0, [(.iload_n 1, []), (.i2l, []), (.lconst 0, []), (.lconst 1, []), (.invokestatic 69, [168, 3, 0, 1]), (.ifCond .ne 5, [2, 1])], none)
noncomputable def bl_X9_got_1 : am_B := (10, [(.iconst (-1), []), (.ireturn, [0])], none)
noncomputable def bl_X9_got_2 : am_B := (12, [(.iconst 0, []), (.istore_n 2, []), (.iconst 0, []), (.istore_n 3, [])], some 1003)
noncomputable def bl_X9_got_3 : am_B := (16, [(.iload_n 3, []), (.aload_n 0, []), (.getfield 136, [9, 1, 0]), (.if_icmp .ge 24, [1005, 4])], none)
noncomputable def bl_X9_got_4 : am_B := (24, [(.iload_n 2, []), (.aload_n 0, []), (.getfield 7, [9, 0, 2]), (.iconst 4, []), (.iconst 3, []), (.iload_n 3, []), (.imul, []), (.iadd, []), (.iload_n 1, []), (.iadd, []), (.iaload, []), (.iadd, []), (.istore_n 2, []), (.iinc 3 1, []), (.goto (-26), [1003])], none)
noncomputable def bl_X9_got_5 : am_B := (45, [(.iload_n 2, []), (.ireturn, [0])], none)
noncomputable def bk_X9_got : List am_B := [bl_X9_got_0, bl_X9_got_1, bl_X9_got_2, bl_X9_got_3, bl_X9_got_4, bl_X9_got_5]
noncomputable def ck_X9_got : List (List (Nat × List Nat)) := [[(1, []), (1, []), (1, []), (1, []), (3, [1169, 1170, 91]), (3, [])],
  [(1, []), (1, [])],
  [(1, []), (1, []), (1, []), (1, [])],
  [(1, []), (1, []), (3, [1068]), (3, [])],
  [(1, []), (1, []), (3, [1067]), (1, []), (1, []), (1, []), (1, []), (1, []), (1, []), (1, []), (1, []), (1, []), (1, []), (3, []), (3, [])],
  [(1, []), (1, [])]]
theorem ok_X9_got : am_ck 214 bk_X9_got ck_X9_got = true := am_ckD (by decide +kernel)
theorem ml_X9_got : am_ml 214 = 4 := by decide +kernel
theorem pn_X9_got : plainName (am_y 214).cls = true := by decide +kernel
/-- PaceBorderModel.keep(I)I: number 215, loop heads [] -/
noncomputable def bl_X9_keep_0 : am_B := (0, [(.iload_n 1, []), (.i2l, []), (.lconst 0, []), (.ldc2_w 184, [2]), (.invokestatic 69, [168, 3, 0, 1]), (.ifCond .ne 5, [2, 1])], none)
noncomputable def bl_X9_keep_1 : am_B := (12, [(.iconst (-1), []), (.ireturn, [0])], none)
noncomputable def bl_X9_keep_2 : am_B := (14, [(.aload_n 0, []), (.getfield 136, [9, 1, 0]), (.ifCond .ne 6, [4, 3])], none)
noncomputable def bl_X9_keep_3 : am_B := (21, [(.bipush (-4), []), (.ireturn, [0])], none)
noncomputable def bl_X9_keep_4 : am_B := (24, [(.aload_n 0, []), (.iconst 0, []), (.bipush 121, []), (.iconst 1, []), (.iload_n 1, []), (.iadd, []), (.imul, []), (.invokevirtual 177, [209, 2, 9, 0]), (.aload_n 0, []), (.getfield 7, [9, 0, 2]), (.iconst 0, []), (.iaload, []), (.ireturn, [0])], none)
noncomputable def bk_X9_keep : List am_B := [bl_X9_keep_0, bl_X9_keep_1, bl_X9_keep_2, bl_X9_keep_3, bl_X9_keep_4]
noncomputable def ck_X9_keep : List (List (Nat × List Nat)) := [[(1, []), (1, []), (1, []), (3, [1345]), (3, [1169, 1170, 91]), (3, [])],
  [(1, []), (1, [])],
  [(1, []), (3, [1068]), (3, [])],
  [(2, []), (1, [])],
  [(1, []), (1, []), (2, []), (1, []), (1, []), (1, []), (1, []), (3, [1325, 1327, 53, 91]), (1, []), (3, [1067]), (1, []), (1, []), (1, [])]]
theorem ok_X9_keep : am_ck 215 bk_X9_keep ck_X9_keep = true := am_ckD (by decide +kernel)
theorem ml_X9_keep : am_ml 215 = 2 := by decide +kernel
theorem pn_X9_keep : plainName (am_y 215).cls = true := by decide +kernel
/-- PaceBorderModel.on(I)I: number 216, loop heads [] -/
noncomputable def bl_X9_on_0 : am_B := (0, [(.iload_n 1, []), (.i2l, []), (.lconst 0, []), (.ldc2_w 184, [2]), (.invokestatic 69, [168, 3, 0, 1]), (.ifCond .ne 5, [2, 1])], none)
noncomputable def bl_X9_on_1 : am_B := (12, [(.iconst (-1), []), (.ireturn, [0])], none)
noncomputable def bl_X9_on_2 : am_B := (14, [(.aload_n 0, []), (.getfield 7, [9, 0, 2]), (.bipush 121, []), (.iconst 1, []), (.iload_n 1, []), (.iadd, []), (.imul, []), (.iconst 0, []), (.iadd, []), (.iaload, []), (.ifCond .ge 9, [4, 3])], none)
noncomputable def bl_X9_on_3 : am_B := (30, [(.aload_n 0, []), (.iconst 1, []), (.invokevirtual 79, [170, 1, 9, 1]), (.ireturn, [0])], none)
noncomputable def bl_X9_on_4 : am_B := (36, [(.aload_n 0, []), (.bipush 121, []), (.iconst 1, []), (.iload_n 1, []), (.iadd, []), (.imul, []), (.iconst 0, []), (.invokevirtual 177, [209, 2, 9, 0]), (.aload_n 0, []), (.getfield 7, [9, 0, 2]), (.iconst 0, []), (.iaload, []), (.ireturn, [0])], none)
noncomputable def bk_X9_on : List am_B := [bl_X9_on_0, bl_X9_on_1, bl_X9_on_2, bl_X9_on_3, bl_X9_on_4]
noncomputable def ck_X9_on : List (List (Nat × List Nat)) := [[(1, []), (1, []), (1, []), (3, [1345]), (3, [1169, 1170, 91]), (3, [])],
  [(1, []), (1, [])],
  [(1, []), (3, [1067]), (2, []), (1, []), (1, []), (1, []), (1, []), (1, []), (1, []), (1, []), (3, [])],
  [(1, []), (1, []), (3, [1172, 1174, 33, 91]), (1, [])],
  [(1, []), (2, []), (1, []), (1, []), (1, []), (1, []), (1, []), (3, [1325, 1327, 53, 91]), (1, []), (3, [1067]), (1, []), (1, []), (1, [])]]
theorem ok_X9_on : am_ck 216 bk_X9_on ck_X9_on = true := am_ckD (by decide +kernel)
theorem ml_X9_on : am_ml 216 = 2 := by decide +kernel
theorem pn_X9_on : plainName (am_y 216).cls = true := by decide +kernel
/-- PaceBorderModel.isPlace(I)Z: number 217, loop heads [] -/
noncomputable def bl_X9_isPlace_0 : am_B := (0, [(.iload_n 1, []), (.i2l, []), (.lconst 0, []), (.aload_n 0, []), (.getfield 136, [9, 1, 0]), (.i2l, []), (.invokestatic 69, [168, 3, 0, 1]), (.ireturn, [1])], none)
noncomputable def bk_X9_isPlace : List am_B := [bl_X9_isPlace_0]
noncomputable def ck_X9_isPlace : List (List (Nat × List Nat)) := [[(1, []), (1, []), (1, []), (1, []), (3, [1068]), (1, []), (3, [1169, 1170, 91]), (1, [])]]
theorem ok_X9_isPlace : am_ck 217 bk_X9_isPlace ck_X9_isPlace = true := am_ckD (by decide +kernel)
theorem ml_X9_isPlace : am_ml 217 = 2 := by decide +kernel
theorem pn_X9_isPlace : plainName (am_y 217).cls = true := by decide +kernel
/-- PaceBorderModel.rudeness(III)I: number 218, loop heads [3] -/
noncomputable def bl_X9_rudeness_0 : am_B := (0, [(.iload_n 3, []), (.ifCond .ne 5, [2, 1])], none)
noncomputable def bl_X9_rudeness_1 : am_B := (4, [(.iconst 0, []), (.ireturn, [0])], none)
noncomputable def bl_X9_rudeness_2 : am_B := (6, [(.iconst 1, []), (.istore 4, [])], some 1003)
noncomputable def bl_X9_rudeness_3 : am_B := (9, [(.iload 4, []), (.iconst 3, []), (.if_icmp .ge 44, [1013, 4])], none)
noncomputable def bl_X9_rudeness_4 : am_B := (15, [(.aload_n 0, []), (.iload_n 1, []), (.iload_n 2, []), (.iload_n 3, []), (.ifCond .ge 8, [6, 5])], none)
noncomputable def bl_X9_rudeness_5 : am_B := (22, [(.iload 4, []), (.goto 4, [7])], none)
noncomputable def bl_X9_rudeness_6 : am_B := (27, [(.iconst 0, [])], some 7)
noncomputable def bl_X9_rudeness_7 : am_B := (28, [(.iload_n 3, []), (.ifCond .ge 7, [9, 8])], none)
noncomputable def bl_X9_rudeness_8 : am_B := (32, [(.iconst 0, []), (.goto 5, [10])], none)
noncomputable def bl_X9_rudeness_9 : am_B := (36, [(.iload 4, [])], some 10)
noncomputable def bl_X9_rudeness_10 : am_B := (38, [(.invokevirtual 149, [196, 4, 9, 1]), (.iload_n 1, []), (.iload_n 3, []), (.iadd, []), (.if_icmp .ne 6, [12, 11])], none)
noncomputable def bl_X9_rudeness_11 : am_B := (47, [(.iload 4, []), (.ireturn, [0])], none)
noncomputable def bl_X9_rudeness_12 : am_B := (50, [(.iinc 4 1, []), (.goto (-44), [1003])], none)
noncomputable def bl_X9_rudeness_13 : am_B := (56, [(.bipush (-9), []), (.ireturn, [0])], none)
noncomputable def bk_X9_rudeness : List am_B := [bl_X9_rudeness_0, bl_X9_rudeness_1, bl_X9_rudeness_2, bl_X9_rudeness_3, bl_X9_rudeness_4, bl_X9_rudeness_5, bl_X9_rudeness_6, bl_X9_rudeness_7, bl_X9_rudeness_8, bl_X9_rudeness_9, bl_X9_rudeness_10, bl_X9_rudeness_11, bl_X9_rudeness_12, bl_X9_rudeness_13]
noncomputable def ck_X9_rudeness : List (List (Nat × List Nat)) := [[(1, []), (3, [])],
  [(1, []), (1, [])],
  [(1, []), (2, [])],
  [(2, []), (1, []), (3, [])],
  [(1, []), (1, []), (1, []), (1, []), (3, [])],
  [(2, []), (3, [])],
  [(1, [])],
  [(1, []), (3, [])],
  [(1, []), (3, [])],
  [(2, [])],
  [(3, [1307, 1309, 51, 91]), (1, []), (1, []), (1, []), (3, [])],
  [(2, []), (1, [])],
  [(3, []), (3, [])],
  [(2, []), (1, [])]]
theorem ok_X9_rudeness : am_ck 218 bk_X9_rudeness ck_X9_rudeness = true := am_ckD (by decide +kernel)
theorem ml_X9_rudeness : am_ml 218 = 5 := by decide +kernel
theorem pn_X9_rudeness : plainName (am_y 218).cls = true := by decide +kernel
/-- PaceBorderModel.canBe(III)Z: number 219, loop heads [] -/
noncomputable def bl_X9_canBe_0 : am_B := (0, [(.aload_n 0, []), (.iload_n 1, []), (.iload_n 2, []), (.iload_n 3, []), (.invokevirtual 186, [218, 3, 9, 1]), (.bipush (-9), []), (.if_icmp .eq 7, [2, 1])], none)
noncomputable def bl_X9_canBe_1 : am_B := (12, [(.iconst 1, []), (.goto 4, [3])], none)
noncomputable def bl_X9_canBe_2 : am_B := (16, [(.iconst 0, [])], some 3)
noncomputable def bl_X9_canBe_3 : am_B := (17, [(.ireturn, [1])], none)
noncomputable def bk_X9_canBe : List am_B := [bl_X9_canBe_0, bl_X9_canBe_1, bl_X9_canBe_2, bl_X9_canBe_3]
noncomputable def ck_X9_canBe : List (List (Nat × List Nat)) := [[(1, []), (1, []), (1, []), (1, []), (3, [1358, 1360, 55, 91]), (2, []), (3, [])],
  [(1, []), (3, [])],
  [(1, [])],
  [(1, [])]]
theorem ok_X9_canBe : am_ck 219 bk_X9_canBe ck_X9_canBe = true := am_ckD (by decide +kernel)
theorem ml_X9_canBe : am_ml 219 = 4 := by decide +kernel
theorem pn_X9_canBe : plainName (am_y 219).cls = true := by decide +kernel
/-- PaceBorderModel.moves()I: number 220, loop heads [3] -/
noncomputable def bl_X9_moves_0 : am_B := (0, [(.aload_n 0, []), (.getfield 136, [9, 1, 0]), (.ifCond .ne 6, [2, 1])], none)
noncomputable def bl_X9_moves_1 : am_B := (7, [(.bipush (-4), []), (.ireturn, [0])], none)
noncomputable def bl_X9_moves_2 : am_B := (10, [(.iconst 0, []), (.istore_n 1, []), (.iconst (-1), []), (.istore_n 2, [])], some 1003)
noncomputable def bl_X9_moves_3 : am_B := (14, [(.iload_n 2, []), (.iconst 2, []), (.if_icmp .ge 41, [1008, 4])], none)
noncomputable def bl_X9_moves_4 : am_B := (19, [(.iload_n 1, []), (.aload_n 0, []), (.aload_n 0, []), (.getfield 7, [9, 0, 2]), (.iconst 1, []), (.iaload, []), (.aload_n 0, []), (.getfield 7, [9, 0, 2]), (.iconst 0, []), (.iaload, []), (.iload_n 2, []), (.invokevirtual 190, [219, 3, 9, 1]), (.ifCond .eq 11, [6, 5])], none)
noncomputable def bl_X9_moves_5 : am_B := (40, [(.iconst 1, []), (.iload_n 2, []), (.iconst 1, []), (.iadd, []), (.ishl, []), (.goto 4, [7])], none)
noncomputable def bl_X9_moves_6 : am_B := (48, [(.iconst 0, [])], some 7)
noncomputable def bl_X9_moves_7 : am_B := (49, [(.ior, []), (.istore_n 1, []), (.iinc 2 1, []), (.goto (-40), [1003])], none)
noncomputable def bl_X9_moves_8 : am_B := (57, [(.iload_n 1, []), (.ireturn, [0])], none)
noncomputable def bk_X9_moves : List am_B := [bl_X9_moves_0, bl_X9_moves_1, bl_X9_moves_2, bl_X9_moves_3, bl_X9_moves_4, bl_X9_moves_5, bl_X9_moves_6, bl_X9_moves_7, bl_X9_moves_8]
noncomputable def ck_X9_moves : List (List (Nat × List Nat)) := [[(1, []), (3, [1068]), (3, [])],
  [(2, []), (1, [])],
  [(1, []), (1, []), (1, []), (1, [])],
  [(1, []), (1, []), (3, [])],
  [(1, []), (1, []), (1, []), (3, [1067]), (1, []), (1, []), (1, []), (3, [1067]), (1, []), (1, []), (1, []), (3, [1354, 1356, 54, 91]), (3, [])],
  [(1, []), (1, []), (1, []), (1, []), (1, []), (3, [])],
  [(1, [])],
  [(1, []), (1, []), (3, []), (3, [])],
  [(1, []), (1, [])]]
theorem ok_X9_moves : am_ck 220 bk_X9_moves ck_X9_moves = true := am_ckD (by decide +kernel)
theorem ml_X9_moves : am_ml 220 = 3 := by decide +kernel
theorem pn_X9_moves : plainName (am_y 220).cls = true := by decide +kernel
/-- PaceBorderModel.areMoves(I)Z: number 221, loop heads [1] -/
noncomputable def bl_X9_areMoves_0 : am_B := (0, [(.iconst 1, []), (.istore_n 2, []), (.iconst 0, []), (.istore_n 3, [])], some 1001)
noncomputable def bl_X9_areMoves_1 : am_B := (4, [(.iload_n 3, []), (.aload_n 0, []), (.getfield 19, [9, 4, 2]), (.iload_n 1, []), (.iaload, []), (.if_icmp .ge 41, [1007, 2])], none)
noncomputable def bl_X9_areMoves_2 : am_B := (14, [(.iload_n 2, []), (.ifCond .eq 29, [5, 3])], none)
noncomputable def bl_X9_areMoves_3 : am_B := (18, [(.aload_n 0, []), (.getfield 22, [9, 5, 2]), (.bipush 40, []), (.iload_n 1, []), (.imul, []), (.iload_n 3, []), (.iadd, []), (.iaload, []), (.i2l, []), (.ldc2_w 193, [1, 1]), (.lconst 1, []), (.invokestatic 69, [168, 3, 0, 1]), (.ifCond .eq 7, [5, 4])], none)
noncomputable def bl_X9_areMoves_4 : am_B := (40, [(.iconst 1, []), (.goto 4, [6])], none)
noncomputable def bl_X9_areMoves_5 : am_B := (44, [(.iconst 0, [])], some 6)
noncomputable def bl_X9_areMoves_6 : am_B := (45, [(.istore_n 2, []), (.iinc 3 1, []), (.goto (-45), [1001])], none)
noncomputable def bl_X9_areMoves_7 : am_B := (52, [(.iload_n 2, []), (.ireturn, [1])], none)
noncomputable def bk_X9_areMoves : List am_B := [bl_X9_areMoves_0, bl_X9_areMoves_1, bl_X9_areMoves_2, bl_X9_areMoves_3, bl_X9_areMoves_4, bl_X9_areMoves_5, bl_X9_areMoves_6, bl_X9_areMoves_7]
noncomputable def ck_X9_areMoves : List (List (Nat × List Nat)) := [[(1, []), (1, []), (1, []), (1, [])],
  [(1, []), (1, []), (3, [1071]), (1, []), (1, []), (3, [])],
  [(1, []), (3, [])],
  [(1, []), (3, [1072]), (2, []), (1, []), (1, []), (1, []), (1, []), (1, []), (1, []), (3, [1370]), (1, []), (3, [1169, 1170, 91]), (3, [])],
  [(1, []), (3, [])],
  [(1, [])],
  [(1, []), (3, []), (3, [])],
  [(1, []), (1, [])]]
theorem ok_X9_areMoves : am_ck 221 bk_X9_areMoves ck_X9_areMoves = true := am_ckD (by decide +kernel)
theorem ml_X9_areMoves : am_ml 221 = 4 := by decide +kernel
theorem pn_X9_areMoves : plainName (am_y 221).cls = true := by decide +kernel
/-- PaceBorderModel.goAlong(I)I: number 222, loop heads [1] -/
noncomputable def bl_X9_goAlong_0 : am_B := (0, [(.aload_n 0, []), (.aload_n 0, []), (.getfield 7, [9, 0, 2]), (.iconst 1, []), (.iaload, []), (.putfield 195, [9, 19, 0, 0]), (.aload_n 0, []), (.iconst 0, []), (.putfield 198, [9, 20, 0, 0]), (.iconst 0, []), (.istore_n 2, [])], some 1001)
noncomputable def bl_X9_goAlong_1 : am_B := (17, [(.iload_n 2, []), (.aload_n 0, []), (.getfield 19, [9, 4, 2]), (.iload_n 1, []), (.iaload, []), (.if_icmp .ge 70, [1005, 2])], none)
noncomputable def bl_X9_goAlong_2 : am_B := (27, [(.aload_n 0, []), (.getfield 22, [9, 5, 2]), (.bipush 40, []), (.iload_n 1, []), (.imul, []), (.iload_n 2, []), (.iadd, []), (.iaload, []), (.istore_n 3, []), (.aload_n 0, []), (.aload_n 0, []), (.getfield 195, [9, 19, 0]), (.aload_n 0, []), (.getfield 7, [9, 0, 2]), (.iconst 0, []), (.iaload, []), (.iload_n 2, []), (.iadd, []), (.iload_n 3, []), (.invokevirtual 186, [218, 3, 9, 1]), (.istore 4, []), (.iload 4, []), (.bipush (-9), []), (.if_icmp .ne 5, [4, 3])], none)
noncomputable def bl_X9_goAlong_3 : am_B := (65, [(.iload_n 2, []), (.ireturn, [0])], none)
noncomputable def bl_X9_goAlong_4 : am_B := (67, [(.aload_n 0, []), (.dup, []), (.getfield 195, [9, 19, 0]), (.iload_n 3, []), (.iadd, []), (.putfield 195, [9, 19, 0, 0]), (.aload_n 0, []), (.dup, []), (.getfield 198, [9, 20, 0]), (.iload 4, []), (.iadd, []), (.putfield 198, [9, 20, 0, 0]), (.iinc 2 1, []), (.goto (-74), [1001])], none)
noncomputable def bl_X9_goAlong_5 : am_B := (94, [(.aload_n 0, []), (.getfield 19, [9, 4, 2]), (.iload_n 1, []), (.iaload, []), (.ireturn, [0])], none)
noncomputable def bk_X9_goAlong : List am_B := [bl_X9_goAlong_0, bl_X9_goAlong_1, bl_X9_goAlong_2, bl_X9_goAlong_3, bl_X9_goAlong_4, bl_X9_goAlong_5]
noncomputable def ck_X9_goAlong : List (List (Nat × List Nat)) := [[(1, []), (1, []), (3, [1067]), (1, []), (1, []), (3, [1086]), (1, []), (1, []), (3, [1087]), (1, []), (1, [])],
  [(1, []), (1, []), (3, [1071]), (1, []), (1, []), (3, [])],
  [(1, []), (3, [1072]), (2, []), (1, []), (1, []), (1, []), (1, []), (1, []), (1, []), (1, []), (1, []), (3, [1086]), (1, []), (3, [1067]), (1, []), (1, []), (1, []), (1, []), (1, []), (3, [1358, 1360, 55, 91]), (2, []), (2, []), (2, []), (3, [])],
  [(1, []), (1, [])],
  [(1, []), (1, []), (3, [1086]), (1, []), (1, []), (3, [1086]), (1, []), (1, []), (3, [1087]), (2, []), (1, []), (3, [1087]), (3, []), (3, [])],
  [(1, []), (3, [1071]), (1, []), (1, []), (1, [])]]
theorem ok_X9_goAlong : am_ck 222 bk_X9_goAlong ck_X9_goAlong = true := am_ckD (by decide +kernel)
theorem ml_X9_goAlong : am_ml 222 = 5 := by decide +kernel
theorem pn_X9_goAlong : plainName (am_y 222).cls = true := by decide +kernel
/-- PaceBorderModel.judge(I)I: number 223, loop heads [] -/
noncomputable def bl_X9_judge_0 : am_B := (0, [(.iload_n 1, []), (.invokestatic 75, [172, 1, 0, 1]), (.ifCond .ne 5, [2, 1])], none)
noncomputable def bl_X9_judge_1 : am_B := (7, [(.iconst (-1), []), (.ireturn, [0])], none)
noncomputable def bl_X9_judge_2 : am_B := (9, [(.aload_n 0, []), (.getfield 136, [9, 1, 0]), (.ifCond .ne 6, [4, 3])], none)
noncomputable def bl_X9_judge_3 : am_B := (16, [(.bipush (-4), []), (.ireturn, [0])], none)
noncomputable def bl_X9_judge_4 : am_B := (19, [(.aload_n 0, []), (.getfield 19, [9, 4, 2]), (.iload_n 1, []), (.iaload, []), (.ifCond .ge 9, [6, 5])], none)
noncomputable def bl_X9_judge_5 : am_B := (28, [(.aload_n 0, []), (.iconst 1, []), (.invokevirtual 79, [170, 1, 9, 1]), (.ireturn, [0])], none)
noncomputable def bl_X9_judge_6 : am_B := (34, [(.aload_n 0, []), (.iload_n 1, []), (.invokevirtual 201, [221, 1, 9, 1]), (.ifCond .ne 9, [8, 7])], none)
noncomputable def bl_X9_judge_7 : am_B := (42, [(.aload_n 0, []), (.iconst 3, []), (.invokevirtual 79, [170, 1, 9, 1]), (.ireturn, [0])], none)
noncomputable def bl_X9_judge_8 : am_B := (48, [(.aload_n 0, []), (.iload_n 1, []), (.invokevirtual 204, [222, 1, 9, 1]), (.istore_n 2, []), (.aload_n 0, []), (.aload_n 0, []), (.getfield 195, [9, 19, 0]), (.putfield 64, [9, 8, 0, 0]), (.iload_n 2, []), (.ireturn, [0])], none)
noncomputable def bk_X9_judge : List am_B := [bl_X9_judge_0, bl_X9_judge_1, bl_X9_judge_2, bl_X9_judge_3, bl_X9_judge_4, bl_X9_judge_5, bl_X9_judge_6, bl_X9_judge_7, bl_X9_judge_8]
noncomputable def ck_X9_judge : List (List (Nat × List Nat)) := [[(1, []), (3, [1165, 1166, 91]), (3, [])],
  [(1, []), (1, [])],
  [(1, []), (3, [1068]), (3, [])],
  [(2, []), (1, [])],
  [(1, []), (3, [1071]), (1, []), (1, []), (3, [])],
  [(1, []), (1, []), (3, [1172, 1174, 33, 91]), (1, [])],
  [(1, []), (1, []), (3, [1366, 1368, 56, 91]), (3, [])],
  [(1, []), (1, []), (3, [1172, 1174, 33, 91]), (1, [])],
  [(1, []), (1, []), (3, [1371, 1373, 57, 91]), (1, []), (1, []), (1, []), (3, [1086]), (3, [1075]), (1, []), (1, [])]]
theorem ok_X9_judge : am_ck 223 bk_X9_judge ck_X9_judge = true := am_ckD (by decide +kernel)
theorem ml_X9_judge : am_ml 223 = 3 := by decide +kernel
theorem pn_X9_judge : plainName (am_y 223).cls = true := by decide +kernel
/-- PaceBorderModel.rude(I)I: number 224, loop heads [] -/
noncomputable def bl_X9_rude_0 : am_B := (0, [(.iload_n 1, []), (.invokestatic 75, [172, 1, 0, 1]), (.ifCond .ne 5, [2, 1])], none)
noncomputable def bl_X9_rude_1 : am_B := (7, [(.iconst (-1), []), (.ireturn, [0])], none)
noncomputable def bl_X9_rude_2 : am_B := (9, [(.aload_n 0, []), (.getfield 136, [9, 1, 0]), (.ifCond .ne 6, [4, 3])], none)
noncomputable def bl_X9_rude_3 : am_B := (16, [(.bipush (-4), []), (.ireturn, [0])], none)
noncomputable def bl_X9_rude_4 : am_B := (19, [(.aload_n 0, []), (.getfield 19, [9, 4, 2]), (.iload_n 1, []), (.iaload, []), (.ifCond .ge 9, [6, 5])], none)
noncomputable def bl_X9_rude_5 : am_B := (28, [(.aload_n 0, []), (.iconst 1, []), (.invokevirtual 79, [170, 1, 9, 1]), (.ireturn, [0])], none)
noncomputable def bl_X9_rude_6 : am_B := (34, [(.aload_n 0, []), (.iload_n 1, []), (.invokevirtual 201, [221, 1, 9, 1]), (.ifCond .eq 17, [8, 7])], none)
noncomputable def bl_X9_rude_7 : am_B := (42, [(.aload_n 0, []), (.iload_n 1, []), (.invokevirtual 204, [222, 1, 9, 1]), (.aload_n 0, []), (.getfield 19, [9, 4, 2]), (.iload_n 1, []), (.iaload, []), (.if_icmp .ge 9, [9, 8])], none)
noncomputable def bl_X9_rude_8 : am_B := (56, [(.aload_n 0, []), (.iconst 3, []), (.invokevirtual 79, [170, 1, 9, 1]), (.ireturn, [0])], none)
noncomputable def bl_X9_rude_9 : am_B := (62, [(.aload_n 0, []), (.getfield 198, [9, 20, 0]), (.ireturn, [0])], none)
noncomputable def bk_X9_rude : List am_B := [bl_X9_rude_0, bl_X9_rude_1, bl_X9_rude_2, bl_X9_rude_3, bl_X9_rude_4, bl_X9_rude_5, bl_X9_rude_6, bl_X9_rude_7, bl_X9_rude_8, bl_X9_rude_9]
noncomputable def ck_X9_rude : List (List (Nat × List Nat)) := [[(1, []), (3, [1165, 1166, 91]), (3, [])],
  [(1, []), (1, [])],
  [(1, []), (3, [1068]), (3, [])],
  [(2, []), (1, [])],
  [(1, []), (3, [1071]), (1, []), (1, []), (3, [])],
  [(1, []), (1, []), (3, [1172, 1174, 33, 91]), (1, [])],
  [(1, []), (1, []), (3, [1366, 1368, 56, 91]), (3, [])],
  [(1, []), (1, []), (3, [1371, 1373, 57, 91]), (1, []), (3, [1071]), (1, []), (1, []), (3, [])],
  [(1, []), (1, []), (3, [1172, 1174, 33, 91]), (1, [])],
  [(1, []), (3, [1087]), (1, [])]]
theorem ok_X9_rude : am_ck 224 bk_X9_rude ck_X9_rude = true := am_ckD (by decide +kernel)
theorem ml_X9_rude : am_ml 224 = 2 := by decide +kernel
theorem pn_X9_rude : plainName (am_y 224).cls = true := by decide +kernel
/-- PaceBorderModel.paysOn(III)I: number 225, loop heads [] -/
noncomputable def bl_X9_paysOn_0 : am_B := (0, [(.iload_n 2, []), (.invokestatic 153, [199, 1, 0, 1]), (.ifCond .eq 33, [2, 1])], none)
noncomputable def bl_X9_paysOn_1 : am_B := (7, [(.aload_n 0, []), (.iload_n 1, []), (.iconst 0, []), (.iload_n 3, []), (.aload_n 0, []), (.getfield 7, [9, 0, 2]), (.iconst 2, []), (.iaload, []), (.invokevirtual 156, [198, 4, 9, 1]), (.aload_n 0, []), (.iload_n 1, []), (.iconst 1, []), (.iload_n 3, []), (.aload_n 0, []), (.getfield 7, [9, 0, 2]), (.iconst 3, []), (.iaload, []), (.invokevirtual 156, [198, 4, 9, 1]), (.iadd, []), (.goto 4, [3])], none)
noncomputable def bl_X9_paysOn_2 : am_B := (37, [(.iconst 0, [])], some 3)
noncomputable def bl_X9_paysOn_3 : am_B := (38, [(.ireturn, [0])], none)
noncomputable def bk_X9_paysOn : List am_B := [bl_X9_paysOn_0, bl_X9_paysOn_1, bl_X9_paysOn_2, bl_X9_paysOn_3]
noncomputable def ck_X9_paysOn : List (List (Nat × List Nat)) := [[(1, []), (3, [1314, 1315, 91]), (3, [])],
  [(1, []), (1, []), (1, []), (1, []), (1, []), (3, [1067]), (1, []), (1, []), (3, [1287, 1289, 49, 91]), (1, []), (1, []), (1, []), (1, []), (1, []), (3, [1067]), (1, []), (1, []), (3, [1287, 1289, 49, 91]), (1, []), (3, [])],
  [(1, [])],
  [(1, [])]]
theorem ok_X9_paysOn : am_ck 225 bk_X9_paysOn ck_X9_paysOn = true := am_ckD (by decide +kernel)
theorem ml_X9_paysOn : am_ml 225 = 4 := by decide +kernel
theorem pn_X9_paysOn : plainName (am_y 225).cls = true := by decide +kernel
/-- PaceBorderModel.pays(II)I: number 226, loop heads [9] -/
noncomputable def bl_X9_pays_0 : am_B := (0, [(.aload_n 0, []), (.iload_n 1, []), (.invokevirtual 139, [194, 1, 9, 1]), (.ifCond .eq 10, [2, 1])], none)
noncomputable def bl_X9_pays_1 : am_B := (8, [(.iload_n 2, []), (.invokestatic 75, [172, 1, 0, 1]), (.ifCond .ne 5, [3, 2])], none)
noncomputable def bl_X9_pays_2 : am_B := (15, [(.iconst (-1), []), (.ireturn, [0])], none)
noncomputable def bl_X9_pays_3 : am_B := (17, [(.aload_n 0, []), (.getfield 19, [9, 4, 2]), (.iload_n 2, []), (.iaload, []), (.ifCond .ge 9, [5, 4])], none)
noncomputable def bl_X9_pays_4 : am_B := (26, [(.aload_n 0, []), (.iconst 1, []), (.invokevirtual 79, [170, 1, 9, 1]), (.ireturn, [0])], none)
noncomputable def bl_X9_pays_5 : am_B := (32, [(.aload_n 0, []), (.iload_n 2, []), (.invokevirtual 201, [221, 1, 9, 1]), (.ifCond .eq 17, [7, 6])], none)
noncomputable def bl_X9_pays_6 : am_B := (40, [(.aload_n 0, []), (.iload_n 2, []), (.invokevirtual 204, [222, 1, 9, 1]), (.aload_n 0, []), (.getfield 19, [9, 4, 2]), (.iload_n 2, []), (.iaload, []), (.if_icmp .ge 9, [8, 7])], none)
noncomputable def bl_X9_pays_7 : am_B := (54, [(.aload_n 0, []), (.iconst 3, []), (.invokevirtual 79, [170, 1, 9, 1]), (.ireturn, [0])], none)
noncomputable def bl_X9_pays_8 : am_B := (60, [(.aload_n 0, []), (.getfield 7, [9, 0, 2]), (.iconst 1, []), (.iaload, []), (.istore_n 3, []), (.iconst 0, []), (.istore 4, []), (.iconst 0, []), (.istore 5, [])], some 1009)
noncomputable def bl_X9_pays_9 : am_B := (73, [(.iload 5, []), (.aload_n 0, []), (.getfield 19, [9, 4, 2]), (.iload_n 2, []), (.iaload, []), (.if_icmp .ge 44, [1011, 10])], none)
noncomputable def bl_X9_pays_10 : am_B := (84, [(.iload_n 3, []), (.aload_n 0, []), (.getfield 22, [9, 5, 2]), (.bipush 40, []), (.iload_n 2, []), (.imul, []), (.iload 5, []), (.iadd, []), (.iaload, []), (.iadd, []), (.istore_n 3, []), (.iload 4, []), (.aload_n 0, []), (.iload_n 1, []), (.aload_n 0, []), (.getfield 7, [9, 0, 2]), (.iconst 0, []), (.iaload, []), (.iload 5, []), (.iadd, []), (.iload_n 3, []), (.invokevirtual 207, [225, 3, 9, 1]), (.iadd, []), (.istore 4, []), (.iinc 5 1, []), (.goto (-49), [1009])], none)
noncomputable def bl_X9_pays_11 : am_B := (125, [(.iload 4, []), (.ireturn, [0])], none)
noncomputable def bk_X9_pays : List am_B := [bl_X9_pays_0, bl_X9_pays_1, bl_X9_pays_2, bl_X9_pays_3, bl_X9_pays_4, bl_X9_pays_5, bl_X9_pays_6, bl_X9_pays_7, bl_X9_pays_8, bl_X9_pays_9, bl_X9_pays_10, bl_X9_pays_11]
noncomputable def ck_X9_pays : List (List (Nat × List Nat)) := [[(1, []), (1, []), (3, [1264, 1266, 45, 91]), (3, [])],
  [(1, []), (3, [1165, 1166, 91]), (3, [])],
  [(1, []), (1, [])],
  [(1, []), (3, [1071]), (1, []), (1, []), (3, [])],
  [(1, []), (1, []), (3, [1172, 1174, 33, 91]), (1, [])],
  [(1, []), (1, []), (3, [1366, 1368, 56, 91]), (3, [])],
  [(1, []), (1, []), (3, [1371, 1373, 57, 91]), (1, []), (3, [1071]), (1, []), (1, []), (3, [])],
  [(1, []), (1, []), (3, [1172, 1174, 33, 91]), (1, [])],
  [(1, []), (3, [1067]), (1, []), (1, []), (1, []), (1, []), (2, []), (1, []), (2, [])],
  [(2, []), (1, []), (3, [1071]), (1, []), (1, []), (3, [])],
  [(1, []), (1, []), (3, [1072]), (2, []), (1, []), (1, []), (2, []), (1, []), (1, []), (1, []), (1, []), (2, []), (1, []), (1, []), (1, []), (3, [1067]), (1, []), (1, []), (2, []), (1, []), (1, []), (3, [1383, 1385, 58, 91]), (1, []), (2, []), (3, []), (3, [])],
  [(2, []), (1, [])]]
theorem ok_X9_pays : am_ck 226 bk_X9_pays ck_X9_pays = true := am_ckD (by decide +kernel)
theorem ml_X9_pays : am_ml 226 = 6 := by decide +kernel
theorem pn_X9_pays : plainName (am_y 226).cls = true := by decide +kernel
