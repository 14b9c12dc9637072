/-- PaceBorder$Ground.<init>()V: number 27, loop heads [] -/
noncomputable def bl_X2_init_0 : am_B := (0, [(.aload_n 0, []), (.invokespecial 3, [1000000]), (.aload_n 0, []), (.bipush 12, []), (.newarray .int, [10]), (.putfield 9, [2, 1, 2, 1]), (.aload_n 0, []), (.bipush 12, []), (.newarray .int, [10]), (.putfield 15, [2, 2, 2, 1]), (.return_, [])], none)
noncomputable def bk_X2_init : List am_B := [bl_X2_init_0]
noncomputable def ck_X2_init : List (List (Nat × List Nat)) := [[(1, []), (3, [142, 100, 101]), (1, []), (2, []), (2, []), (3, [151]), (1, []), (2, []), (2, []), (3, [152]), (1, [])]]
theorem ok_X2_init : am_ck 27 bk_X2_init ck_X2_init = true := am_ckD (by decide +kernel)
theorem ml_X2_init : am_ml 27 = 1 := by decide +kernel
theorem pn_X2_init : plainName (am_y 27).cls = true := by decide +kernel
/-- PaceBorder$Ground.clear()V: number 28, loop heads [] -/
noncomputable def bl_X2_clear_0 : am_B := (0, [(.aload_n 0, []), (.iconst 0, []), (.putfield 18, [2, 0, 0, 0]), (.return_, [])], none)
noncomputable def bk_X2_clear : List am_B := [bl_X2_clear_0]
noncomputable def ck_X2_clear : List (List (Nat × List Nat)) := [[(1, []), (1, []), (3, [143]), (1, [])]]
theorem ok_X2_clear : am_ck 28 bk_X2_clear ck_X2_clear = true := am_ckD (by decide +kernel)
theorem ml_X2_clear : am_ml 28 = 1 := by decide +kernel
theorem pn_X2_clear : plainName (am_y 28).cls = true := by decide +kernel
/-- PaceBorder$Ground.hasRoom()Z: number 29, loop heads [] -/
noncomputable def bl_X2_hasRoom_0 : am_B := (0, [(.aload_n 0, []), (.getfield 18, [2, 0, 0]), (.bipush 12, []), (.if_icmp .ge 7, [2, 1])], none)
noncomputable def bl_X2_hasRoom_1 : am_B := (9, [(.iconst 1, []), (.goto 4, [3])], none)
noncomputable def bl_X2_hasRoom_2 : am_B := (13, [(.iconst 0, [])], some 3)
noncomputable def bl_X2_hasRoom_3 : am_B := (14, [(.ireturn, [1])], none)
noncomputable def bk_X2_hasRoom : List am_B := [bl_X2_hasRoom_0, bl_X2_hasRoom_1, bl_X2_hasRoom_2, bl_X2_hasRoom_3]
noncomputable def ck_X2_hasRoom : List (List (Nat × List Nat)) := [[(1, []), (3, [143]), (2, []), (3, [])],
  [(1, []), (3, [])],
  [(1, [])],
  [(1, [])]]
theorem ok_X2_hasRoom : am_ck 29 bk_X2_hasRoom ck_X2_hasRoom = true := am_ckD (by decide +kernel)
theorem ml_X2_hasRoom : am_ml 29 = 1 := by decide +kernel
theorem pn_X2_hasRoom : plainName (am_y 29).cls = true := by decide +kernel
/-- PaceBorder$Ground.add(II)V: number 30, loop heads [] -/
noncomputable def bl_X2_add_0 : am_B := (0, [(.aload_n 0, []), (.invokevirtual 22, [29, 0, 2, 1]), (.ifCond .eq 33, [2, 1])], none)
noncomputable def bl_X2_add_1 : am_B := (7, [(.aload_n 0, []), (.getfield 9, [2, 1, 2]), (.aload_n 0, []), (.getfield 18, [2, 0, 0]), (.iload_n 1, []), (.iastore, []), (.aload_n 0, []), (.getfield 15, [2, 2, 2]), (.aload_n 0, []), (.getfield 18, [2, 0, 0]), (.iload_n 2, []), (.iastore, []), (.aload_n 0, []), (.dup, []), (.getfield 18, [2, 0, 0]), (.iconst 1, []), (.iadd, []), (.putfield 18, [2, 0, 0, 0])], some 2)
noncomputable def bl_X2_add_2 : am_B := (37, [(.return_, [])], none)
noncomputable def bk_X2_add : List am_B := [bl_X2_add_0, bl_X2_add_1, bl_X2_add_2]
noncomputable def ck_X2_add : List (List (Nat × List Nat)) := [[(1, []), (3, [511, 504, 505, 85]), (3, [])],
  [(1, []), (3, [151]), (1, []), (3, [143]), (1, []), (1, []), (1, []), (3, [152]), (1, []), (3, [143]), (1, []), (1, []), (1, []), (1, []), (3, [143]), (1, []), (1, []), (3, [143])],
  [(1, [])]]
theorem ok_X2_add : am_ck 30 bk_X2_add ck_X2_add = true := am_ckD (by decide +kernel)
theorem ml_X2_add : am_ml 30 = 3 := by decide +kernel
theorem pn_X2_add : plainName (am_y 30).cls = true := by decide +kernel
/-- PaceBorder$Ground.takeFrom(LPaceBorder$Ground;)V: number 31, loop heads [] -/
noncomputable def bl_X2_takeFrom_0 : am_B := (0, [(.aload_n 0, []), (.aload_n 1, []), (.getfield 18, [2, 0, 0]), (.putfield 18, [2, 0, 0, 0]), (.aload_n 1, []), (.getfield 9, [2, 1, 2]), (.iconst 0, []), (.aload_n 0, []), (.getfield 9, [2, 1, 2]), (.iconst 0, []), (.bipush 12, []), (.invokestatic 26, [1000000]), (.aload_n 1, []), (.getfield 15, [2, 2, 2]), (.iconst 0, []), (.aload_n 0, []), (.getfield 15, [2, 2, 2]), (.iconst 0, []), (.bipush 12, []), (.invokestatic 26, [1000000]), (.return_, [])], none)
noncomputable def bk_X2_takeFrom : List am_B := [bl_X2_takeFrom_0]
noncomputable def ck_X2_takeFrom : List (List (Nat × List Nat)) := [[(1, []), (1, []), (3, [143]), (3, [143]), (1, []), (3, [151]), (1, []), (1, []), (3, [151]), (1, []), (2, []), (3, [520, 447, 446, 92]), (1, []), (3, [152]), (1, []), (1, []), (3, [152]), (1, []), (2, []), (3, [520, 447, 446, 92]), (1, [])]]
theorem ok_X2_takeFrom : am_ck 31 bk_X2_takeFrom ck_X2_takeFrom = true := am_ckD (by decide +kernel)
theorem ml_X2_takeFrom : am_ml 31 = 2 := by decide +kernel
theorem pn_X2_takeFrom : plainName (am_y 31).cls = true := by decide +kernel
/-- PaceBorder$Ground.setKind(II)V: number 32, loop heads [] -/
noncomputable def bl_X2_setKind_0 : am_B := (0, [(.aload_n 0, []), (.iload_n 1, []), (.invokevirtual 32, [33, 1, 2, 1]), (.ifCond .eq 10, [2, 1])], none)
noncomputable def bl_X2_setKind_1 : am_B := (8, [(.aload_n 0, []), (.getfield 9, [2, 1, 2]), (.iload_n 1, []), (.iload_n 2, []), (.iastore, [])], some 2)
noncomputable def bl_X2_setKind_2 : am_B := (15, [(.return_, [])], none)
noncomputable def bk_X2_setKind : List am_B := [bl_X2_setKind_0, bl_X2_setKind_1, bl_X2_setKind_2]
noncomputable def ck_X2_setKind : List (List (Nat × List Nat)) := [[(1, []), (1, []), (3, [541, 530, 531, 85]), (3, [])],
  [(1, []), (3, [151]), (1, []), (1, []), (1, [])],
  [(1, [])]]
theorem ok_X2_setKind : am_ck 32 bk_X2_setKind ck_X2_setKind = true := am_ckD (by decide +kernel)
theorem ml_X2_setKind : am_ml 32 = 3 := by decide +kernel
theorem pn_X2_setKind : plainName (am_y 32).cls = true := by decide +kernel
/-- PaceBorder$Ground.has(I)Z: number 33, loop heads [] -/
noncomputable def bl_X2_has_0 : am_B := (0, [(.iload_n 1, []), (.ifCond .lt 15, [3, 1])], none)
noncomputable def bl_X2_has_1 : am_B := (4, [(.iload_n 1, []), (.aload_n 0, []), (.getfield 18, [2, 0, 0]), (.if_icmp .ge 7, [3, 2])], none)
noncomputable def bl_X2_has_2 : am_B := (12, [(.iconst 1, []), (.goto 4, [4])], none)
noncomputable def bl_X2_has_3 : am_B := (16, [(.iconst 0, [])], some 4)
noncomputable def bl_X2_has_4 : am_B := (17, [(.ireturn, [1])], none)
noncomputable def bk_X2_has : List am_B := [bl_X2_has_0, bl_X2_has_1, bl_X2_has_2, bl_X2_has_3, bl_X2_has_4]
noncomputable def ck_X2_has : List (List (Nat × List Nat)) := [[(1, []), (3, [])],
  [(1, []), (1, []), (3, [143]), (3, [])],
  [(1, []), (3, [])],
  [(1, [])],
  [(1, [])]]
theorem ok_X2_has : am_ck 33 bk_X2_has ck_X2_has = true := am_ckD (by decide +kernel)
theorem ml_X2_has : am_ml 33 = 2 := by decide +kernel
theorem pn_X2_has : plainName (am_y 33).cls = true := by decide +kernel
/-- PaceBorder$Ground.isPlace(I)Z: number 34, loop heads [] -/
noncomputable def bl_X2_isPlace_0 : am_B := (0, [(.iload_n 1, []), (.ifCond .lt 15, [3, 1])], none)
noncomputable def bl_X2_isPlace_1 : am_B := (4, [(.iload_n 1, []), (.aload_n 0, []), (.getfield 18, [2, 0, 0]), (.if_icmp .gt 7, [3, 2])], none)
noncomputable def bl_X2_isPlace_2 : am_B := (12, [(.iconst 1, []), (.goto 4, [4])], none)
noncomputable def bl_X2_isPlace_3 : am_B := (16, [(.iconst 0, [])], some 4)
noncomputable def bl_X2_isPlace_4 : am_B := (17, [(.ireturn, [1])], none)
noncomputable def bk_X2_isPlace : List am_B := [bl_X2_isPlace_0, bl_X2_isPlace_1, bl_X2_isPlace_2, bl_X2_isPlace_3, bl_X2_isPlace_4]
noncomputable def ck_X2_isPlace : List (List (Nat × List Nat)) := [[(1, []), (3, [])],
  [(1, []), (1, []), (3, [143]), (3, [])],
  [(1, []), (3, [])],
  [(1, [])],
  [(1, [])]]
theorem ok_X2_isPlace : am_ck 34 bk_X2_isPlace ck_X2_isPlace = true := am_ckD (by decide +kernel)
theorem ml_X2_isPlace : am_ml 34 = 2 := by decide +kernel
theorem pn_X2_isPlace : plainName (am_y 34).cls = true := by decide +kernel
/-- PaceBorder$Ground.kindOf(I)I: number 35, loop heads [] -/
noncomputable def bl_X2_kindOf_0 : am_B := (0, [(.aload_n 0, []), (.iload_n 1, []), (.invokevirtual 32, [33, 1, 2, 1]), (.ifCond .eq 12, [2, 1])], none)
noncomputable def bl_X2_kindOf_1 : am_B := (8, [(.aload_n 0, []), (.getfield 9, [2, 1, 2]), (.iload_n 1, []), (.iaload, []), (.goto 4, [3])], none)
noncomputable def bl_X2_kindOf_2 : am_B := (17, [(.iconst 0, [])], some 3)
noncomputable def bl_X2_kindOf_3 : am_B := (18, [(.ireturn, [0])], none)
noncomputable def bk_X2_kindOf : List am_B := [bl_X2_kindOf_0, bl_X2_kindOf_1, bl_X2_kindOf_2, bl_X2_kindOf_3]
noncomputable def ck_X2_kindOf : List (List (Nat × List Nat)) := [[(1, []), (1, []), (3, [541, 530, 531, 85]), (3, [])],
  [(1, []), (3, [151]), (1, []), (1, []), (3, [])],
  [(1, [])],
  [(1, [])]]
theorem ok_X2_kindOf : am_ck 35 bk_X2_kindOf ck_X2_kindOf = true := am_ckD (by decide +kernel)
theorem ml_X2_kindOf : am_ml 35 = 2 := by decide +kernel
theorem pn_X2_kindOf : plainName (am_y 35).cls = true := by decide +kernel
/-- PaceBorder$Ground.dueOf(I)I: number 36, loop heads [] -/
noncomputable def bl_X2_dueOf_0 : am_B := (0, [(.aload_n 0, []), (.iload_n 1, []), (.invokevirtual 32, [33, 1, 2, 1]), (.ifCond .eq 12, [2, 1])], none)
noncomputable def bl_X2_dueOf_1 : am_B := (8, [(.aload_n 0, []), (.getfield 15, [2, 2, 2]), (.iload_n 1, []), (.iaload, []), (.goto 4, [3])], none)
noncomputable def bl_X2_dueOf_2 : am_B := (17, [(.iconst 0, [])], some 3)
noncomputable def bl_X2_dueOf_3 : am_B := (18, [(.ireturn, [0])], none)
noncomputable def bk_X2_dueOf : List am_B := [bl_X2_dueOf_0, bl_X2_dueOf_1, bl_X2_dueOf_2, bl_X2_dueOf_3]
noncomputable def ck_X2_dueOf : List (List (Nat × List Nat)) := [[(1, []), (1, []), (3, [541, 530, 531, 85]), (3, [])],
  [(1, []), (3, [152]), (1, []), (1, []), (3, [])],
  [(1, [])],
  [(1, [])]]
theorem ok_X2_dueOf : am_ck 36 bk_X2_dueOf ck_X2_dueOf = true := am_ckD (by decide +kernel)
theorem ml_X2_dueOf : am_ml 36 = 2 := by decide +kernel
theorem pn_X2_dueOf : plainName (am_y 36).cls = true := by decide +kernel
/-- PaceBorder$Ground.isOf(II)Z: number 37, loop heads [] -/
noncomputable def bl_X2_isOf_0 : am_B := (0, [(.aload_n 0, []), (.iload_n 1, []), (.invokevirtual 36, [35, 1, 2, 1]), (.istore_n 3, []), (.iload_n 3, []), (.iload_n 2, []), (.if_icmp .eq 27, [6, 1])], none)
noncomputable def bl_X2_isOf_1 : am_B := (11, [(.iload_n 2, []), (.ifCond .eq 23, [6, 2])], none)
noncomputable def bl_X2_isOf_2 : am_B := (15, [(.iload_n 3, []), (.iconst 4, []), (.if_icmp .ne 8, [4, 3])], none)
noncomputable def bl_X2_isOf_3 : am_B := (20, [(.iload_n 2, []), (.iconst 1, []), (.if_icmp .eq 13, [6, 4])], none)
noncomputable def bl_X2_isOf_4 : am_B := (25, [(.iload_n 3, []), (.iconst 5, []), (.if_icmp .ne 12, [7, 5])], none)
noncomputable def bl_X2_isOf_5 : am_B := (30, [(.iload_n 2, []), (.iconst 2, []), (.if_icmp .ne 7, [7, 6])], none)
noncomputable def bl_X2_isOf_6 : am_B := (35, [(.iconst 1, []), (.goto 4, [8])], none)
noncomputable def bl_X2_isOf_7 : am_B := (39, [(.iconst 0, [])], some 8)
noncomputable def bl_X2_isOf_8 : am_B := (40, [(.ireturn, [1])], none)
noncomputable def bk_X2_isOf : List am_B := [bl_X2_isOf_0, bl_X2_isOf_1, bl_X2_isOf_2, bl_X2_isOf_3, bl_X2_isOf_4, bl_X2_isOf_5, bl_X2_isOf_6, bl_X2_isOf_7, bl_X2_isOf_8]
noncomputable def ck_X2_isOf : List (List (Nat × List Nat)) := [[(1, []), (1, []), (3, [573, 538, 539, 85]), (1, []), (1, []), (1, []), (3, [])],
  [(1, []), (3, [])],
  [(1, []), (1, []), (3, [])],
  [(1, []), (1, []), (3, [])],
  [(1, []), (1, []), (3, [])],
  [(1, []), (1, []), (3, [])],
  [(1, []), (3, [])],
  [(1, [])],
  [(1, [])]]
theorem ok_X2_isOf : am_ck 37 bk_X2_isOf ck_X2_isOf = true := am_ckD (by decide +kernel)
theorem ml_X2_isOf : am_ml 37 = 4 := by decide +kernel
theorem pn_X2_isOf : plainName (am_y 37).cls = true := by decide +kernel
/-- PaceBorder$Ground.howManyAre(I)I: number 38, loop heads [1] -/
noncomputable def bl_X2_howManyAre_0 : am_B := (0, [(.iconst 0, []), (.istore_n 2, []), (.iconst 0, []), (.istore_n 3, [])], some 1001)
noncomputable def bl_X2_howManyAre_1 : am_B := (4, [(.iload_n 3, []), (.aload_n 0, []), (.getfield 18, [2, 0, 0]), (.if_icmp .ge 21, [1005, 2])], none)
noncomputable def bl_X2_howManyAre_2 : am_B := (12, [(.aload_n 0, []), (.iload_n 3, []), (.iload_n 1, []), (.invokevirtual 40, [37, 2, 2, 1]), (.ifCond .eq 6, [4, 3])], none)
noncomputable def bl_X2_howManyAre_3 : am_B := (21, [(.iinc 2 1, [])], some 4)
noncomputable def bl_X2_howManyAre_4 : am_B := (24, [(.iinc 3 1, []), (.goto (-23), [1001])], none)
noncomputable def bl_X2_howManyAre_5 : am_B := (30, [(.iload_n 2, []), (.ireturn, [0])], none)
noncomputable def bk_X2_howManyAre : List am_B := [bl_X2_howManyAre_0, bl_X2_howManyAre_1, bl_X2_howManyAre_2, bl_X2_howManyAre_3, bl_X2_howManyAre_4, bl_X2_howManyAre_5]
noncomputable def ck_X2_howManyAre : List (List (Nat × List Nat)) := [[(1, []), (1, []), (1, []), (1, [])],
  [(1, []), (1, []), (3, [143]), (3, [])],
  [(1, []), (1, []), (1, []), (3, [1031, 570, 571, 85]), (3, [])],
  [(3, [])],
  [(3, []), (3, [])],
  [(1, []), (1, [])]]
theorem ok_X2_howManyAre : am_ck 38 bk_X2_howManyAre ck_X2_howManyAre = true := am_ckD (by decide +kernel)
theorem ml_X2_howManyAre : am_ml 38 = 4 := by decide +kernel
theorem pn_X2_howManyAre : plainName (am_y 38).cls = true := by decide +kernel
/-- PaceBorder$Ground.crownOf(II)I: number 39, loop heads [] -/
noncomputable def bl_X2_crownOf_0 : am_B := (0, [(.iload_n 0, []), (.iload_n 1, []), (.if_icmp .ge 7, [2, 1])], none)
noncomputable def bl_X2_crownOf_1 : am_B := (5, [(.iconst 0, []), (.goto 4, [3])], none)
noncomputable def bl_X2_crownOf_2 : am_B := (9, [(.iconst 1, [])], some 3)
noncomputable def bl_X2_crownOf_3 : am_B := (10, [(.ireturn, [0])], none)
noncomputable def bk_X2_crownOf : List am_B := [bl_X2_crownOf_0, bl_X2_crownOf_1, bl_X2_crownOf_2, bl_X2_crownOf_3]
noncomputable def ck_X2_crownOf : List (List (Nat × List Nat)) := [[(1, []), (1, []), (3, [])],
  [(1, []), (3, [])],
  [(1, [])],
  [(1, [])]]
theorem ok_X2_crownOf : am_ck 39 bk_X2_crownOf ck_X2_crownOf = true := am_ckD (by decide +kernel)
theorem ml_X2_crownOf : am_ml 39 = 2 := by decide +kernel
theorem pn_X2_crownOf : plainName (am_y 39).cls = true := by decide +kernel
/-- PaceBorder$Ground.touches(II)Z: number 40, loop heads [] -/
noncomputable def bl_X2_touches_0 : am_B := (0, [(.iload_n 1, []), (.iload_n 0, []), (.if_icmp .eq 10, [2, 1])], none)
noncomputable def bl_X2_touches_1 : am_B := (5, [(.iload_n 1, []), (.iload_n 0, []), (.iconst 1, []), (.iadd, []), (.if_icmp .ne 7, [3, 2])], none)
noncomputable def bl_X2_touches_2 : am_B := (12, [(.iconst 1, []), (.goto 4, [4])], none)
noncomputable def bl_X2_touches_3 : am_B := (16, [(.iconst 0, [])], some 4)
noncomputable def bl_X2_touches_4 : am_B := (17, [(.ireturn, [1])], none)
noncomputable def bk_X2_touches : List am_B := [bl_X2_touches_0, bl_X2_touches_1, bl_X2_touches_2, bl_X2_touches_3, bl_X2_touches_4]
noncomputable def ck_X2_touches : List (List (Nat × List Nat)) := [[(1, []), (1, []), (3, [])],
  [(1, []), (1, []), (1, []), (1, []), (3, [])],
  [(1, []), (3, [])],
  [(1, [])],
  [(1, [])]]
theorem ok_X2_touches : am_ck 40 bk_X2_touches ck_X2_touches = true := am_ckD (by decide +kernel)
theorem ml_X2_touches : am_ml 40 = 2 := by decide +kernel
theorem pn_X2_touches : plainName (am_y 40).cls = true := by decide +kernel
/-- PaceBorder$Ground.rudeness(III)I: number 41, loop heads [] -/
noncomputable def bl_X2_rudeness_0 : am_B := (0, [(.iload_n 2, []), (.ifCond .ne 5, [2, 1])], none)
noncomputable def bl_X2_rudeness_1 : am_B := (4, [(.iconst 0, []), (.ireturn, [0])], none)
noncomputable def bl_X2_rudeness_2 : am_B := (6, [(.iload_n 2, []), (.ifCond .ge 9, [4, 3])], none)
noncomputable def bl_X2_rudeness_3 : am_B := (10, [(.iload_n 1, []), (.iconst 1, []), (.isub, []), (.goto 4, [5])], none)
noncomputable def bl_X2_rudeness_4 : am_B := (16, [(.iload_n 1, [])], some 5)
noncomputable def bl_X2_rudeness_5 : am_B := (17, [(.istore 4, []), (.iload 4, []), (.ifCond .lt 12, [7, 6])], none)
noncomputable def bl_X2_rudeness_6 : am_B := (24, [(.iload 4, []), (.aload_n 0, []), (.getfield 18, [2, 0, 0]), (.if_icmp .lt 5, [8, 7])], none)
noncomputable def bl_X2_rudeness_7 : am_B := (33, [(.iconst (-1), []), (.ireturn, [0])], none)
noncomputable def bl_X2_rudeness_8 : am_B := (35, [(.aload_n 0, []), (.getfield 9, [2, 1, 2]), (.iload 4, []), (.iaload, []), (.istore 5, []), (.iload 5, []), (.iconst 3, []), (.if_icmp .ne 11, [11, 9])], none)
noncomputable def bl_X2_rudeness_9 : am_B := (50, [(.iload_n 3, []), (.iconst 2, []), (.irem, []), (.ifCond .eq 5, [11, 10])], none)
noncomputable def bl_X2_rudeness_10 : am_B := (56, [(.iconst (-1), []), (.ireturn, [0])], none)
noncomputable def bl_X2_rudeness_11 : am_B := (58, [(.iload 5, []), (.iconst 2, []), (.if_icmp .eq 9, [13, 12])], none)
noncomputable def bl_X2_rudeness_12 : am_B := (64, [(.iload 5, []), (.iconst 5, []), (.if_icmp .ne 7, [14, 13])], none)
noncomputable def bl_X2_rudeness_13 : am_B := (70, [(.iconst 2, []), (.goto 4, [15])], none)
noncomputable def bl_X2_rudeness_14 : am_B := (74, [(.iconst 1, [])], some 15)
noncomputable def bl_X2_rudeness_15 : am_B := (75, [(.ireturn, [0])], none)
noncomputable def bk_X2_rudeness : List am_B := [bl_X2_rudeness_0, bl_X2_rudeness_1, bl_X2_rudeness_2, bl_X2_rudeness_3, bl_X2_rudeness_4, bl_X2_rudeness_5, bl_X2_rudeness_6, bl_X2_rudeness_7, bl_X2_rudeness_8, bl_X2_rudeness_9, bl_X2_rudeness_10, bl_X2_rudeness_11, bl_X2_rudeness_12, bl_X2_rudeness_13, bl_X2_rudeness_14, bl_X2_rudeness_15]
noncomputable def ck_X2_rudeness : List (List (Nat × List Nat)) := [[(1, []), (3, [])],
  [(1, []), (1, [])],
  [(1, []), (3, [])],
  [(1, []), (1, []), (1, []), (3, [])],
  [(1, [])],
  [(2, []), (2, []), (3, [])],
  [(2, []), (1, []), (3, [143]), (3, [])],
  [(1, []), (1, [])],
  [(1, []), (3, [151]), (2, []), (1, []), (2, []), (2, []), (1, []), (3, [])],
  [(1, []), (1, []), (1, []), (3, [])],
  [(1, []), (1, [])],
  [(2, []), (1, []), (3, [])],
  [(2, []), (1, []), (3, [])],
  [(1, []), (3, [])],
  [(1, [])],
  [(1, [])]]
theorem ok_X2_rudeness : am_ck 41 bk_X2_rudeness ck_X2_rudeness = true := am_ckD (by decide +kernel)
theorem ml_X2_rudeness : am_ml 41 = 6 := by decide +kernel
theorem pn_X2_rudeness : plainName (am_y 41).cls = true := by decide +kernel
/-- PaceBorder$Ground.borderAfter(IIII)I: number 42, loop heads [] -/
noncomputable def bl_X2_borderAfter_0 : am_B := (0, [(.iload 4, []), (.iload_n 3, []), (.invokestatic 44, [272, 2, 0, 1]), (.istore 5, []), (.aload_n 0, []), (.iload_n 1, []), (.iload 5, []), (.iload_n 2, []), (.invokevirtual 50, [41, 3, 2, 1]), (.istore 6, []), (.iload 6, []), (.iconst (-1), []), (.if_icmp .eq 15, [2, 1])], none)
noncomputable def bl_X2_borderAfter_1 : am_B := (24, [(.iload_n 3, []), (.iload 4, []), (.isub, []), (.invokestatic 54, [2, 0]), (.iload 6, []), (.if_icmp .ge 7, [3, 2])], none)
noncomputable def bl_X2_borderAfter_2 : am_B := (36, [(.iconst 1, []), (.goto 4, [4])], none)
noncomputable def bl_X2_borderAfter_3 : am_B := (40, [(.iconst 0, [])], some 4)
noncomputable def bl_X2_borderAfter_4 : am_B := (41, [(.istore 7, []), (.iload 7, []), (.ifCond .eq 7, [6, 5])], none)
noncomputable def bl_X2_borderAfter_5 : am_B := (48, [(.iload_n 1, []), (.goto 7, [7])], none)
noncomputable def bl_X2_borderAfter_6 : am_B := (52, [(.iload_n 1, []), (.iload 5, []), (.iadd, [])], some 7)
noncomputable def bl_X2_borderAfter_7 : am_B := (56, [(.ireturn, [0])], none)
noncomputable def bk_X2_borderAfter : List am_B := [bl_X2_borderAfter_0, bl_X2_borderAfter_1, bl_X2_borderAfter_2, bl_X2_borderAfter_3, bl_X2_borderAfter_4, bl_X2_borderAfter_5, bl_X2_borderAfter_6, bl_X2_borderAfter_7]
noncomputable def ck_X2_borderAfter : List (List (Nat × List Nat)) := [[(2, []), (1, []), (3, [619, 620, 93]), (2, []), (1, []), (1, []), (2, []), (1, []), (3, [622, 623, 624, 85]), (2, []), (2, []), (1, []), (3, [])],
  [(1, []), (2, []), (1, []), (3, [626, 627, 82, 628]), (2, []), (3, [])],
  [(1, []), (3, [])],
  [(1, [])],
  [(2, []), (2, []), (3, [])],
  [(1, []), (3, [])],
  [(1, []), (2, []), (1, [])],
  [(1, [])]]
theorem ok_X2_borderAfter : am_ck 42 bk_X2_borderAfter ck_X2_borderAfter = true := am_ckD (by decide +kernel)
theorem ml_X2_borderAfter : am_ml 42 = 8 := by decide +kernel
theorem pn_X2_borderAfter : plainName (am_y 42).cls = true := by decide +kernel
/-- PaceBorder$Ground.dueTo(IIII)I: number 43, loop heads [] -/
noncomputable def bl_X2_dueTo_0 : am_B := (0, [(.aload_n 0, []), (.iload_n 2, []), (.invokevirtual 36, [35, 1, 2, 1]), (.istore 5, []), (.aload_n 0, []), (.iload_n 2, []), (.invokevirtual 59, [36, 1, 2, 1]), (.iload 4, []), (.imul, []), (.istore 6, []), (.iload 5, []), (.iconst 5, []), (.if_icmp .ne 20, [5, 1])], none)
noncomputable def bl_X2_dueTo_1 : am_B := (23, [(.iload_n 2, []), (.iload_n 3, []), (.invokestatic 62, [40, 2, 0, 1]), (.ifCond .eq 10, [3, 2])], none)
noncomputable def bl_X2_dueTo_2 : am_B := (31, [(.iload 6, []), (.iconst 2, []), (.idiv, []), (.goto 4, [4])], none)
noncomputable def bl_X2_dueTo_3 : am_B := (38, [(.iconst 0, [])], some 4)
noncomputable def bl_X2_dueTo_4 : am_B := (39, [(.ireturn, [0])], none)
noncomputable def bl_X2_dueTo_5 : am_B := (40, [(.iload_n 2, []), (.iload_n 3, []), (.invokestatic 65, [39, 2, 0, 1]), (.iload_n 1, []), (.if_icmp .eq 5, [7, 6])], none)
noncomputable def bl_X2_dueTo_6 : am_B := (49, [(.iconst 0, []), (.ireturn, [0])], none)
noncomputable def bl_X2_dueTo_7 : am_B := (51, [(.iload 5, []), (.iconst 4, []), (.if_icmp .ne 10, [9, 8])], none)
noncomputable def bl_X2_dueTo_8 : am_B := (57, [(.iconst 2, []), (.iload 6, []), (.imul, []), (.goto 15, [12])], none)
noncomputable def bl_X2_dueTo_9 : am_B := (64, [(.iload 5, []), (.iconst 1, []), (.if_icmp .ne 8, [11, 10])], none)
noncomputable def bl_X2_dueTo_10 : am_B := (70, [(.iload 6, []), (.goto 4, [12])], none)
noncomputable def bl_X2_dueTo_11 : am_B := (75, [(.iconst 0, [])], some 12)
noncomputable def bl_X2_dueTo_12 : am_B := (76, [(.ireturn, [0])], none)
noncomputable def bk_X2_dueTo : List am_B := [bl_X2_dueTo_0, bl_X2_dueTo_1, bl_X2_dueTo_2, bl_X2_dueTo_3, bl_X2_dueTo_4, bl_X2_dueTo_5, bl_X2_dueTo_6, bl_X2_dueTo_7, bl_X2_dueTo_8, bl_X2_dueTo_9, bl_X2_dueTo_10, bl_X2_dueTo_11, bl_X2_dueTo_12]
noncomputable def ck_X2_dueTo : List (List (Nat × List Nat)) := [[(1, []), (1, []), (3, [573, 538, 539, 85]), (2, []), (1, []), (1, []), (3, [585, 543, 544, 85]), (2, []), (1, []), (2, []), (2, []), (1, []), (3, [])],
  [(1, []), (1, []), (3, [586, 575, 85]), (3, [])],
  [(2, []), (1, []), (1, []), (3, [])],
  [(1, [])],
  [(1, [])],
  [(1, []), (1, []), (3, [587, 547, 85]), (1, []), (3, [])],
  [(1, []), (1, [])],
  [(2, []), (1, []), (3, [])],
  [(1, []), (2, []), (1, []), (3, [])],
  [(2, []), (1, []), (3, [])],
  [(2, []), (3, [])],
  [(1, [])],
  [(1, [])]]
theorem ok_X2_dueTo : am_ck 43 bk_X2_dueTo ck_X2_dueTo = true := am_ckD (by decide +kernel)
theorem ml_X2_dueTo : am_ml 43 = 7 := by decide +kernel
theorem pn_X2_dueTo : plainName (am_y 43).cls = true := by decide +kernel
