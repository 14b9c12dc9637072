/-- PaceBorder$Reader.<init>(LPaceBorder$Shelf;)V: number 72, loop heads [] -/
noncomputable def bl_X5_init_0 : am_B := (0, [(.aload_n 0, []), (.invokespecial 3, [1000000]), (.aload_n 0, []), (.aload_n 1, []), (.putfield 9, [5, 4, 2, 1]), (.aload_n 0, []), (.new 15, [2, 3]), (.dup, []), (.invokespecial 17, [27, 0]), (.putfield 18, [5, 0, 2, 1]), (.return_, [])], none)
noncomputable def bk_X5_init : List am_B := [bl_X5_init_0]
noncomputable def ck_X5_init : List (List (Nat × List Nat)) := [[(1, []), (3, [136, 100, 101]), (1, []), (1, []), (3, [168]), (1, []), (3, [137, 138, 85]), (1, []), (3, [139, 140, 85]), (3, [160]), (1, [])]]
theorem ok_X5_init : am_ck 72 bk_X5_init ck_X5_init = true := am_ckD (by decide +kernel)
theorem ml_X5_init : am_ml 72 = 2 := by decide +kernel
theorem pn_X5_init : plainName (am_y 72).cls = true := by decide +kernel
/-- PaceBorder$Reader.read(I)I: number 73, loop heads [1] -/
noncomputable def bl_X5_read_0 : am_B := (0, [(.aload_n 0, []), (.iload_n 1, []), (.putfield 22, [5, 5, 0, 0]), (.aload_n 0, []), (.iconst 0, []), (.putfield 26, [5, 6, 0, 0]), (.aload_n 0, []), (.getfield 18, [5, 0, 2]), (.invokevirtual 29, [28, 0, 2, 0]), (.iconst 0, []), (.istore_n 2, [])], some 1001)
noncomputable def bl_X5_read_1 : am_B := (19, [(.iload_n 2, []), (.bipush 12, []), (.if_icmp .gt 62, [1011, 2])], none)
noncomputable def bl_X5_read_2 : am_B := (25, [(.aload_n 0, []), (.invokevirtual 32, [74, 0, 5, 0]), (.aload_n 0, []), (.invokevirtual 35, [75, 0, 5, 1]), (.bipush 98, []), (.if_icmp .ne 31, [8, 3])], none)
noncomputable def bl_X5_read_3 : am_B := (38, [(.aload_n 0, []), (.getfield 18, [5, 0, 2]), (.getfield 39, [2, 0, 0]), (.iconst 2, []), (.if_icmp .lt 20, [8, 1004])], none)
noncomputable def bl_X5_read_4 : am_B := (49, [(.aload_n 0, []), (.invokevirtual 42, [77, 0, 5, 1]), (.ifCond .eq 8, [6, 5])], none)
noncomputable def bl_X5_read_5 : am_B := (56, [(.bipush (-9), []), (.goto 7, [7])], none)
noncomputable def bl_X5_read_6 : am_B := (61, [(.aload_n 0, []), (.getfield 26, [5, 6, 0])], some 7)
noncomputable def bl_X5_read_7 : am_B := (65, [(.ireturn, [0])], none)
noncomputable def bl_X5_read_8 : am_B := (66, [(.aload_n 0, []), (.invokevirtual 46, [76, 0, 5, 1]), (.ifCond .ne 8, [10, 9])], none)
noncomputable def bl_X5_read_9 : am_B := (73, [(.aload_n 0, []), (.getfield 26, [5, 6, 0]), (.ireturn, [0])], none)
noncomputable def bl_X5_read_10 : am_B := (78, [(.iinc 2 1, []), (.goto (-62), [1001])], none)
noncomputable def bl_X5_read_11 : am_B := (84, [(.aload_n 0, []), (.getfield 26, [5, 6, 0]), (.ireturn, [0])], none)
noncomputable def bk_X5_read : List am_B := [bl_X5_read_0, bl_X5_read_1, bl_X5_read_2, bl_X5_read_3, bl_X5_read_4, bl_X5_read_5, bl_X5_read_6, bl_X5_read_7, bl_X5_read_8, bl_X5_read_9, bl_X5_read_10, bl_X5_read_11]
noncomputable def ck_X5_read : List (List (Nat × List Nat)) := [[(1, []), (1, []), (3, [169]), (1, []), (1, []), (3, [170]), (1, []), (3, [160]), (3, [474, 475, 476, 85]), (1, []), (1, [])],
  [(1, []), (2, []), (3, [])],
  [(1, []), (3, [478, 480, 2, 84]), (1, []), (3, [482, 484, 3, 84]), (2, []), (3, [])],
  [(1, []), (3, [160]), (3, [145]), (1, []), (3, [])],
  [(1, []), (3, [487, 489, 4, 84]), (3, [])],
  [(2, []), (3, [])],
  [(1, []), (3, [170])],
  [(1, [])],
  [(1, []), (3, [496, 498, 6, 84]), (3, [])],
  [(1, []), (3, [170]), (1, [])],
  [(3, []), (3, [])],
  [(1, []), (3, [170]), (1, [])]]
theorem ok_X5_read : am_ck 73 bk_X5_read ck_X5_read = true := am_ckD (by decide +kernel)
theorem ml_X5_read : am_ml 73 = 3 := by decide +kernel
theorem pn_X5_read : plainName (am_y 73).cls = true := by decide +kernel
/-- PaceBorder$Reader.skipBlanks()V: number 74, loop heads [1] -/
noncomputable def bl_X5_skipBlanks_0 : am_B := (0, [(.iconst 0, []), (.istore_n 1, [])], some 1001)
noncomputable def bl_X5_skipBlanks_1 : am_B := (2, [(.iload_n 1, []), (.bipush 60, []), (.if_icmp .ge 28, [1004, 2])], none)
noncomputable def bl_X5_skipBlanks_2 : am_B := (8, [(.aload_n 0, []), (.invokevirtual 35, [75, 0, 5, 1]), (.bipush 32, []), (.if_icmp .ne 19, [1004, 3])], none)
noncomputable def bl_X5_skipBlanks_3 : am_B := (17, [(.aload_n 0, []), (.dup, []), (.getfield 26, [5, 6, 0]), (.iconst 1, []), (.iadd, []), (.putfield 26, [5, 6, 0, 0]), (.iinc 1 1, []), (.goto (-28), [1001])], none)
noncomputable def bl_X5_skipBlanks_4 : am_B := (33, [(.return_, [])], none)
noncomputable def bk_X5_skipBlanks : List am_B := [bl_X5_skipBlanks_0, bl_X5_skipBlanks_1, bl_X5_skipBlanks_2, bl_X5_skipBlanks_3, bl_X5_skipBlanks_4]
noncomputable def ck_X5_skipBlanks : List (List (Nat × List Nat)) := [[(1, []), (1, [])],
  [(1, []), (2, []), (3, [])],
  [(1, []), (3, [482, 484, 3, 84]), (2, []), (3, [])],
  [(1, []), (1, []), (3, [170]), (1, []), (1, []), (3, [170]), (3, []), (3, [])],
  [(1, [])]]
theorem ok_X5_skipBlanks : am_ck 74 bk_X5_skipBlanks ck_X5_skipBlanks = true := am_ckD (by decide +kernel)
theorem ml_X5_skipBlanks : am_ml 74 = 2 := by decide +kernel
theorem pn_X5_skipBlanks : plainName (am_y 74).cls = true := by decide +kernel
/-- PaceBorder$Reader.sign()I: number 75, loop heads [] -/
noncomputable def bl_X5_sign_0 : am_B := (0, [(.aload_n 0, []), (.getfield 9, [5, 4, 2]), (.aload_n 0, []), (.getfield 22, [5, 5, 0]), (.aload_n 0, []), (.getfield 26, [5, 6, 0]), (.invokevirtual 49, [88, 2, 6, 1]), (.ireturn, [0])], none)
noncomputable def bk_X5_sign : List am_B := [bl_X5_sign_0]
noncomputable def ck_X5_sign : List (List (Nat × List Nat)) := [[(1, []), (3, [168]), (1, []), (3, [169]), (1, []), (3, [170]), (3, [486, 408, 409, 81]), (1, [])]]
theorem ok_X5_sign : am_ck 75 bk_X5_sign ck_X5_sign = true := am_ckD (by decide +kernel)
theorem ml_X5_sign : am_ml 75 = 1 := by decide +kernel
theorem pn_X5_sign : plainName (am_y 75).cls = true := by decide +kernel
/-- PaceBorder$Reader.readStrip()Z: number 76, loop heads [] -/
noncomputable def bl_X5_readStrip_0 : am_B := (0, [(.aload_n 0, []), (.invokevirtual 35, [75, 0, 5, 1]), (.invokestatic 55, [79, 1, 0, 1]), (.istore_n 1, []), (.iload_n 1, []), (.ifCond .lt 13, [2, 1])], none)
noncomputable def bl_X5_readStrip_1 : am_B := (12, [(.aload_n 0, []), (.getfield 18, [5, 0, 2]), (.invokevirtual 59, [29, 0, 2, 1]), (.ifCond .ne 5, [3, 2])], none)
noncomputable def bl_X5_readStrip_2 : am_B := (22, [(.iconst 0, []), (.ireturn, [1])], none)
noncomputable def bl_X5_readStrip_3 : am_B := (24, [(.aload_n 0, []), (.dup, []), (.getfield 26, [5, 6, 0]), (.iconst 1, []), (.iadd, []), (.putfield 26, [5, 6, 0, 0]), (.aload_n 0, []), (.iconst 0, []), (.bipush 9, []), (.invokevirtual 62, [78, 2, 5, 1]), (.istore_n 2, []), (.iload_n 2, []), (.ifCond .ge 5, [5, 4])], none)
noncomputable def bl_X5_readStrip_4 : am_B := (46, [(.iconst 0, []), (.ireturn, [1])], none)
noncomputable def bl_X5_readStrip_5 : am_B := (48, [(.aload_n 0, []), (.getfield 18, [5, 0, 2]), (.iload_n 1, []), (.iload_n 2, []), (.invokevirtual 65, [30, 2, 2, 0]), (.iconst 1, []), (.ireturn, [1])], none)
noncomputable def bk_X5_readStrip : List am_B := [bl_X5_readStrip_0, bl_X5_readStrip_1, bl_X5_readStrip_2, bl_X5_readStrip_3, bl_X5_readStrip_4, bl_X5_readStrip_5]
noncomputable def ck_X5_readStrip : List (List (Nat × List Nat)) := [[(1, []), (3, [482, 484, 3, 84]), (3, [500, 501, 84]), (1, []), (1, []), (3, [])],
  [(1, []), (3, [160]), (3, [503, 504, 505, 85]), (3, [])],
  [(1, []), (1, [])],
  [(1, []), (1, []), (3, [170]), (1, []), (1, []), (3, [170]), (1, []), (1, []), (2, []), (3, [491, 493, 5, 84]), (1, []), (1, []), (3, [])],
  [(1, []), (1, [])],
  [(1, []), (3, [160]), (1, []), (1, []), (3, [507, 508, 509, 85]), (1, []), (1, [])]]
theorem ok_X5_readStrip : am_ck 76 bk_X5_readStrip ck_X5_readStrip = true := am_ckD (by decide +kernel)
theorem ml_X5_readStrip : am_ml 76 = 3 := by decide +kernel
theorem pn_X5_readStrip : plainName (am_y 76).cls = true := by decide +kernel
/-- PaceBorder$Reader.readEnd()Z: number 77, loop heads [] -/
noncomputable def bl_X5_readEnd_0 : am_B := (0, [(.aload_n 0, []), (.dup, []), (.getfield 26, [5, 6, 0]), (.iconst 1, []), (.iadd, []), (.putfield 26, [5, 6, 0, 0]), (.aload_n 0, []), (.aload_n 0, []), (.iconst 0, []), (.aload_n 0, []), (.getfield 18, [5, 0, 2]), (.getfield 39, [2, 0, 0]), (.invokevirtual 62, [78, 2, 5, 1]), (.putfield 69, [5, 1, 0, 0]), (.aload_n 0, []), (.getfield 69, [5, 1, 0]), (.ifCond .ge 5, [2, 1])], none)
noncomputable def bl_X5_readEnd_1 : am_B := (33, [(.iconst 0, []), (.ireturn, [1])], none)
noncomputable def bl_X5_readEnd_2 : am_B := (35, [(.aload_n 0, []), (.aload_n 0, []), (.iconst 1, []), (.bipush 9, []), (.invokevirtual 62, [78, 2, 5, 1]), (.putfield 72, [5, 2, 0, 0]), (.aload_n 0, []), (.getfield 72, [5, 2, 0]), (.ifCond .ge 5, [4, 3])], none)
noncomputable def bl_X5_readEnd_3 : am_B := (53, [(.iconst 0, []), (.ireturn, [1])], none)
noncomputable def bl_X5_readEnd_4 : am_B := (55, [(.aload_n 0, []), (.aload_n 0, []), (.iconst 1, []), (.bipush 9, []), (.invokevirtual 62, [78, 2, 5, 1]), (.putfield 75, [5, 3, 0, 0]), (.aload_n 0, []), (.getfield 75, [5, 3, 0]), (.ifCond .ge 5, [6, 5])], none)
noncomputable def bl_X5_readEnd_5 : am_B := (73, [(.iconst 0, []), (.ireturn, [1])], none)
noncomputable def bl_X5_readEnd_6 : am_B := (75, [(.aload_n 0, []), (.invokevirtual 32, [74, 0, 5, 0]), (.aload_n 0, []), (.getfield 26, [5, 6, 0]), (.aload_n 0, []), (.getfield 9, [5, 4, 2]), (.aload_n 0, []), (.getfield 22, [5, 5, 0]), (.invokevirtual 78, [83, 1, 6, 1]), (.if_icmp .lt 7, [8, 7])], none)
noncomputable def bl_X5_readEnd_7 : am_B := (97, [(.iconst 1, []), (.goto 4, [9])], none)
noncomputable def bl_X5_readEnd_8 : am_B := (101, [(.iconst 0, [])], some 9)
noncomputable def bl_X5_readEnd_9 : am_B := (102, [(.ireturn, [1])], none)
noncomputable def bk_X5_readEnd : List am_B := [bl_X5_readEnd_0, bl_X5_readEnd_1, bl_X5_readEnd_2, bl_X5_readEnd_3, bl_X5_readEnd_4, bl_X5_readEnd_5, bl_X5_readEnd_6, bl_X5_readEnd_7, bl_X5_readEnd_8, bl_X5_readEnd_9]
noncomputable def ck_X5_readEnd : List (List (Nat × List Nat)) := [[(1, []), (1, []), (3, [170]), (1, []), (1, []), (3, [170]), (1, []), (1, []), (1, []), (1, []), (3, [160]), (3, [145]), (3, [491, 493, 5, 84]), (3, [162]), (1, []), (3, [162]), (3, [])],
  [(1, []), (1, [])],
  [(1, []), (1, []), (1, []), (2, []), (3, [491, 493, 5, 84]), (3, [164]), (1, []), (3, [164]), (3, [])],
  [(1, []), (1, [])],
  [(1, []), (1, []), (1, []), (2, []), (3, [491, 493, 5, 84]), (3, [166]), (1, []), (3, [166]), (3, [])],
  [(1, []), (1, [])],
  [(1, []), (3, [478, 480, 2, 84]), (1, []), (3, [170]), (1, []), (3, [168]), (1, []), (3, [169]), (3, [495, 400, 401, 81]), (3, [])],
  [(1, []), (3, [])],
  [(1, [])],
  [(1, [])]]
theorem ok_X5_readEnd : am_ck 77 bk_X5_readEnd ck_X5_readEnd = true := am_ckD (by decide +kernel)
theorem ml_X5_readEnd : am_ml 77 = 1 := by decide +kernel
theorem pn_X5_readEnd : plainName (am_y 77).cls = true := by decide +kernel
/-- PaceBorder$Reader.readFigure(II)I: number 78, loop heads [] -/
noncomputable def bl_X5_readFigure_0 : am_B := (0, [(.aload_n 0, []), (.invokevirtual 35, [75, 0, 5, 1]), (.istore_n 3, []), (.iload_n 3, []), (.bipush 48, []), (.isub, []), (.istore 4, []), (.iload_n 3, []), (.bipush 48, []), (.if_icmp .lt 21, [4, 1])], none)
noncomputable def bl_X5_readFigure_1 : am_B := (17, [(.iload_n 3, []), (.bipush 57, []), (.if_icmp .gt 15, [4, 2])], none)
noncomputable def bl_X5_readFigure_2 : am_B := (23, [(.iload 4, []), (.iload_n 1, []), (.if_icmp .lt 9, [4, 3])], none)
noncomputable def bl_X5_readFigure_3 : am_B := (29, [(.iload 4, []), (.iload_n 2, []), (.if_icmp .le 5, [5, 4])], none)
noncomputable def bl_X5_readFigure_4 : am_B := (35, [(.iconst (-1), []), (.ireturn, [0])], none)
noncomputable def bl_X5_readFigure_5 : am_B := (37, [(.aload_n 0, []), (.dup, []), (.getfield 26, [5, 6, 0]), (.iconst 1, []), (.iadd, []), (.putfield 26, [5, 6, 0, 0]), (.iload 4, []), (.ireturn, [0])], none)
noncomputable def bk_X5_readFigure : List am_B := [bl_X5_readFigure_0, bl_X5_readFigure_1, bl_X5_readFigure_2, bl_X5_readFigure_3, bl_X5_readFigure_4, bl_X5_readFigure_5]
noncomputable def ck_X5_readFigure : List (List (Nat × List Nat)) := [[(1, []), (3, [482, 484, 3, 84]), (1, []), (1, []), (2, []), (1, []), (2, []), (1, []), (2, []), (3, [])],
  [(1, []), (2, []), (3, [])],
  [(2, []), (1, []), (3, [])],
  [(2, []), (1, []), (3, [])],
  [(1, []), (1, [])],
  [(1, []), (1, []), (3, [170]), (1, []), (1, []), (3, [170]), (2, []), (1, [])]]
theorem ok_X5_readFigure : am_ck 78 bk_X5_readFigure ck_X5_readFigure = true := am_ckD (by decide +kernel)
theorem ml_X5_readFigure : am_ml 78 = 5 := by decide +kernel
theorem pn_X5_readFigure : plainName (am_y 78).cls = true := by decide +kernel
/-- PaceBorder$Reader.kindOfSign(I)I: number 79, loop heads [] -/
noncomputable def bl_X5_kindOfSign_0 : am_B := (0, [(.iload_n 0, []), (.tableswitch 99 102 119 #[89, 99, 99, 95, 99, 99, 99, 99, 99, 99, 99, 99, 93, 87, 97, 99, 99, 91], [7, 2, 7, 7, 5, 7, 7, 7, 7, 7, 7, 7, 7, 4, 1, 6, 7, 7, 3])], none)
noncomputable def bl_X5_kindOfSign_1 : am_B := (88, [(.iconst 0, []), (.ireturn, [0])], none)
noncomputable def bl_X5_kindOfSign_2 : am_B := (90, [(.iconst 1, []), (.ireturn, [0])], none)
noncomputable def bl_X5_kindOfSign_3 : am_B := (92, [(.iconst 2, []), (.ireturn, [0])], none)
noncomputable def bl_X5_kindOfSign_4 : am_B := (94, [(.iconst 3, []), (.ireturn, [0])], none)
noncomputable def bl_X5_kindOfSign_5 : am_B := (96, [(.iconst 4, []), (.ireturn, [0])], none)
noncomputable def bl_X5_kindOfSign_6 : am_B := (98, [(.iconst 5, []), (.ireturn, [0])], none)
noncomputable def bl_X5_kindOfSign_7 : am_B := (100, [(.iconst (-1), []), (.ireturn, [0])], none)
noncomputable def bk_X5_kindOfSign : List am_B := [bl_X5_kindOfSign_0, bl_X5_kindOfSign_1, bl_X5_kindOfSign_2, bl_X5_kindOfSign_3, bl_X5_kindOfSign_4, bl_X5_kindOfSign_5, bl_X5_kindOfSign_6, bl_X5_kindOfSign_7]
noncomputable def ck_X5_kindOfSign : List (List (Nat × List Nat)) := [[(1, []), (87, [])],
  [(1, []), (1, [])],
  [(1, []), (1, [])],
  [(1, []), (1, [])],
  [(1, []), (1, [])],
  [(1, []), (1, [])],
  [(1, []), (1, [])],
  [(1, []), (1, [])]]
theorem ok_X5_kindOfSign : am_ck 79 bk_X5_kindOfSign ck_X5_kindOfSign = true := am_ckD (by decide +kernel)
theorem ml_X5_kindOfSign : am_ml 79 = 1 := by decide +kernel
theorem pn_X5_kindOfSign : plainName (am_y 79).cls = true := by decide +kernel
