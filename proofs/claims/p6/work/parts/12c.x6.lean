/-- PaceBorder$Shelf.<init>(III)V: number 80, loop heads [] -/
noncomputable def bl_X6_init_0 : am_B := (0, [(.aload_n 0, []), (.invokespecial 3, [1000000]), (.aload_n 0, []), (.iconst 0, []), (.iload_n 1, []), (.invokestatic 9, [0, 0]), (.putfield 15, [6, 0, 0, 1]), (.aload_n 0, []), (.iconst 0, []), (.iload_n 2, []), (.invokestatic 9, [0, 0]), (.putfield 21, [6, 1, 0, 1]), (.aload_n 0, []), (.iload_n 3, []), (.putfield 24, [6, 2, 0, 1]), (.aload_n 0, []), (.aload_n 0, []), (.getfield 15, [6, 0, 0]), (.newarray .int, [10]), (.putfield 27, [6, 3, 2, 1]), (.aload_n 0, []), (.aload_n 0, []), (.getfield 15, [6, 0, 0]), (.aload_n 0, []), (.getfield 21, [6, 1, 0]), (.imul, []), (.newarray .int, [10]), (.putfield 31, [6, 4, 2, 1]), (.aload_n 0, []), (.getfield 27, [6, 3, 2]), (.iconst (-1), []), (.invokestatic 34, [277, 2, 0, 0]), (.return_, [])], none)
noncomputable def bk_X6_init : List am_B := [bl_X6_init_0]
noncomputable def ck_X6_init : List (List (Nat × List Nat)) := [[(1, []), (3, [107, 100, 101]), (1, []), (1, []), (1, []), (3, [108, 109, 82, 110]), (3, [114]), (1, []), (1, []), (1, []), (3, [108, 109, 82, 110]), (3, [115]), (1, []), (1, []), (3, [116]), (1, []), (1, []), (3, [114]), (2, []), (3, [117]), (1, []), (1, []), (3, [114]), (1, []), (3, [115]), (1, []), (2, []), (3, [118]), (1, []), (3, [117]), (1, []), (3, [111, 112, 83]), (1, [])]]
theorem ok_X6_init : am_ck 80 bk_X6_init ck_X6_init = true := am_ckD (by decide +kernel)
theorem ml_X6_init : am_ml 80 = 4 := by decide +kernel
theorem pn_X6_init : plainName (am_y 80).cls = true := by decide +kernel
/-- PaceBorder$Shelf.isNumber(I)Z: number 81, loop heads [] -/
noncomputable def bl_X6_isNumber_0 : am_B := (0, [(.iload_n 1, []), (.ifCond .lt 15, [3, 1])], none)
noncomputable def bl_X6_isNumber_1 : am_B := (4, [(.iload_n 1, []), (.aload_n 0, []), (.getfield 15, [6, 0, 0]), (.if_icmp .ge 7, [3, 2])], none)
noncomputable def bl_X6_isNumber_2 : am_B := (12, [(.iconst 1, []), (.goto 4, [4])], none)
noncomputable def bl_X6_isNumber_3 : am_B := (16, [(.iconst 0, [])], some 4)
noncomputable def bl_X6_isNumber_4 : am_B := (17, [(.ireturn, [1])], none)
noncomputable def bk_X6_isNumber : List am_B := [bl_X6_isNumber_0, bl_X6_isNumber_1, bl_X6_isNumber_2, bl_X6_isNumber_3, bl_X6_isNumber_4]
noncomputable def ck_X6_isNumber : List (List (Nat × List Nat)) := [[(1, []), (3, [])],
  [(1, []), (1, []), (3, [114]), (3, [])],
  [(1, []), (3, [])],
  [(1, [])],
  [(1, [])]]
theorem ok_X6_isNumber : am_ck 81 bk_X6_isNumber ck_X6_isNumber = true := am_ckD (by decide +kernel)
theorem ml_X6_isNumber : am_ml 81 = 2 := by decide +kernel
theorem pn_X6_isNumber : plainName (am_y 81).cls = true := by decide +kernel
/-- PaceBorder$Shelf.isThere(I)Z: number 82, loop heads [] -/
noncomputable def bl_X6_isThere_0 : am_B := (0, [(.aload_n 0, []), (.iload_n 1, []), (.invokevirtual 40, [83, 1, 6, 1]), (.iconst (-1), []), (.if_icmp .eq 7, [2, 1])], none)
noncomputable def bl_X6_isThere_1 : am_B := (9, [(.iconst 1, []), (.goto 4, [3])], none)
noncomputable def bl_X6_isThere_2 : am_B := (13, [(.iconst 0, [])], some 3)
noncomputable def bl_X6_isThere_3 : am_B := (14, [(.ireturn, [1])], none)
noncomputable def bk_X6_isThere : List am_B := [bl_X6_isThere_0, bl_X6_isThere_1, bl_X6_isThere_2, bl_X6_isThere_3]
noncomputable def ck_X6_isThere : List (List (Nat × List Nat)) := [[(1, []), (1, []), (3, [399, 400, 401, 81]), (1, []), (3, [])],
  [(1, []), (3, [])],
  [(1, [])],
  [(1, [])]]
theorem ok_X6_isThere : am_ck 82 bk_X6_isThere ck_X6_isThere = true := am_ckD (by decide +kernel)
theorem ml_X6_isThere : am_ml 82 = 2 := by decide +kernel
theorem pn_X6_isThere : plainName (am_y 82).cls = true := by decide +kernel
/-- PaceBorder$Shelf.sizeOf(I)I: number 83, loop heads [] -/
noncomputable def bl_X6_sizeOf_0 : am_B := (0, [(.iload_n 1, []), (.ifCond .lt 20, [3, 1])], none)
noncomputable def bl_X6_sizeOf_1 : am_B := (4, [(.iload_n 1, []), (.aload_n 0, []), (.getfield 15, [6, 0, 0]), (.if_icmp .ge 12, [3, 2])], none)
noncomputable def bl_X6_sizeOf_2 : am_B := (12, [(.aload_n 0, []), (.getfield 27, [6, 3, 2]), (.iload_n 1, []), (.iaload, []), (.goto 4, [4])], none)
noncomputable def bl_X6_sizeOf_3 : am_B := (21, [(.iconst (-1), [])], some 4)
noncomputable def bl_X6_sizeOf_4 : am_B := (22, [(.ireturn, [0])], none)
noncomputable def bk_X6_sizeOf : List am_B := [bl_X6_sizeOf_0, bl_X6_sizeOf_1, bl_X6_sizeOf_2, bl_X6_sizeOf_3, bl_X6_sizeOf_4]
noncomputable def ck_X6_sizeOf : List (List (Nat × List Nat)) := [[(1, []), (3, [])],
  [(1, []), (1, []), (3, [114]), (3, [])],
  [(1, []), (3, [117]), (1, []), (1, []), (3, [])],
  [(1, [])],
  [(1, [])]]
theorem ok_X6_sizeOf : am_ck 83 bk_X6_sizeOf ck_X6_sizeOf = true := am_ckD (by decide +kernel)
theorem ml_X6_sizeOf : am_ml 83 = 2 := by decide +kernel
theorem pn_X6_sizeOf : plainName (am_y 83).cls = true := by decide +kernel
/-- PaceBorder$Shelf.hasPlace(II)Z: number 84, loop heads [] -/
noncomputable def bl_X6_hasPlace_0 : am_B := (0, [(.iload_n 2, []), (.ifCond .lt 16, [3, 1])], none)
noncomputable def bl_X6_hasPlace_1 : am_B := (4, [(.iload_n 2, []), (.aload_n 0, []), (.iload_n 1, []), (.invokevirtual 40, [83, 1, 6, 1]), (.if_icmp .ge 7, [3, 2])], none)
noncomputable def bl_X6_hasPlace_2 : am_B := (13, [(.iconst 1, []), (.goto 4, [4])], none)
noncomputable def bl_X6_hasPlace_3 : am_B := (17, [(.iconst 0, [])], some 4)
noncomputable def bl_X6_hasPlace_4 : am_B := (18, [(.ireturn, [1])], none)
noncomputable def bk_X6_hasPlace : List am_B := [bl_X6_hasPlace_0, bl_X6_hasPlace_1, bl_X6_hasPlace_2, bl_X6_hasPlace_3, bl_X6_hasPlace_4]
noncomputable def ck_X6_hasPlace : List (List (Nat × List Nat)) := [[(1, []), (3, [])],
  [(1, []), (1, []), (1, []), (3, [399, 400, 401, 81]), (3, [])],
  [(1, []), (3, [])],
  [(1, [])],
  [(1, [])]]
theorem ok_X6_hasPlace : am_ck 84 bk_X6_hasPlace ck_X6_hasPlace = true := am_ckD (by decide +kernel)
theorem ml_X6_hasPlace : am_ml 84 = 3 := by decide +kernel
theorem pn_X6_hasPlace : plainName (am_y 84).cls = true := by decide +kernel
/-- PaceBorder$Shelf.holds(III)Z: number 85, loop heads [] -/
noncomputable def bl_X6_holds_0 : am_B := (0, [(.iload_n 2, []), (.ifCond .lt 22, [4, 1])], none)
noncomputable def bl_X6_holds_1 : am_B := (4, [(.iload_n 3, []), (.ifCond .lt 18, [4, 2])], none)
noncomputable def bl_X6_holds_2 : am_B := (8, [(.iload_n 3, []), (.aload_n 0, []), (.iload_n 1, []), (.invokevirtual 40, [83, 1, 6, 1]), (.iload_n 2, []), (.isub, []), (.if_icmp .gt 7, [4, 3])], none)
noncomputable def bl_X6_holds_3 : am_B := (19, [(.iconst 1, []), (.goto 4, [5])], none)
noncomputable def bl_X6_holds_4 : am_B := (23, [(.iconst 0, [])], some 5)
noncomputable def bl_X6_holds_5 : am_B := (24, [(.ireturn, [1])], none)
noncomputable def bk_X6_holds : List am_B := [bl_X6_holds_0, bl_X6_holds_1, bl_X6_holds_2, bl_X6_holds_3, bl_X6_holds_4, bl_X6_holds_5]
noncomputable def ck_X6_holds : List (List (Nat × List Nat)) := [[(1, []), (3, [])],
  [(1, []), (3, [])],
  [(1, []), (1, []), (1, []), (3, [399, 400, 401, 81]), (1, []), (1, []), (3, [])],
  [(1, []), (3, [])],
  [(1, [])],
  [(1, [])]]
theorem ok_X6_holds : am_ck 85 bk_X6_holds ck_X6_holds = true := am_ckD (by decide +kernel)
theorem ml_X6_holds : am_ml 85 = 4 := by decide +kernel
theorem pn_X6_holds : plainName (am_y 85).cls = true := by decide +kernel
/-- PaceBorder$Shelf.make(II)V: number 86, loop heads [5] -/
noncomputable def bl_X6_make_0 : am_B := (0, [(.aload_n 0, []), (.iload_n 1, []), (.invokevirtual 44, [81, 1, 6, 1]), (.ifCond .eq 15, [3, 1])], none)
noncomputable def bl_X6_make_1 : am_B := (8, [(.iload_n 2, []), (.ifCond .lt 11, [3, 2])], none)
noncomputable def bl_X6_make_2 : am_B := (12, [(.iload_n 2, []), (.aload_n 0, []), (.getfield 21, [6, 1, 0]), (.if_icmp .le 4, [4, 3])], none)
noncomputable def bl_X6_make_3 : am_B := (20, [(.return_, [])], none)
noncomputable def bl_X6_make_4 : am_B := (21, [(.aload_n 0, []), (.getfield 27, [6, 3, 2]), (.iload_n 1, []), (.iload_n 2, []), (.iastore, []), (.iconst 0, []), (.istore_n 3, [])], some 1005)
noncomputable def bl_X6_make_5 : am_B := (30, [(.iload_n 3, []), (.iload_n 2, []), (.if_icmp .ge 26, [1007, 6])], none)
noncomputable def bl_X6_make_6 : am_B := (35, [(.aload_n 0, []), (.getfield 31, [6, 4, 2]), (.iload_n 1, []), (.aload_n 0, []), (.getfield 21, [6, 1, 0]), (.imul, []), (.iload_n 3, []), (.iadd, []), (.aload_n 0, []), (.getfield 24, [6, 2, 0]), (.iastore, []), (.iinc 3 1, []), (.goto (-25), [1005])], none)
noncomputable def bl_X6_make_7 : am_B := (58, [(.return_, [])], none)
noncomputable def bk_X6_make : List am_B := [bl_X6_make_0, bl_X6_make_1, bl_X6_make_2, bl_X6_make_3, bl_X6_make_4, bl_X6_make_5, bl_X6_make_6, bl_X6_make_7]
noncomputable def ck_X6_make : List (List (Nat × List Nat)) := [[(1, []), (1, []), (3, [387, 376, 377, 81]), (3, [])],
  [(1, []), (3, [])],
  [(1, []), (1, []), (3, [115]), (3, [])],
  [(1, [])],
  [(1, []), (3, [117]), (1, []), (1, []), (1, []), (1, []), (1, [])],
  [(1, []), (1, []), (3, [])],
  [(1, []), (3, [118]), (1, []), (1, []), (3, [115]), (1, []), (1, []), (1, []), (1, []), (3, [116]), (1, []), (3, []), (3, [])],
  [(1, [])]]
theorem ok_X6_make : am_ck 86 bk_X6_make ck_X6_make = true := am_ckD (by decide +kernel)
theorem ml_X6_make : am_ml 86 = 4 := by decide +kernel
theorem pn_X6_make : plainName (am_y 86).cls = true := by decide +kernel
/-- PaceBorder$Shelf.remove(I)V: number 87, loop heads [] -/
noncomputable def bl_X6_remove_0 : am_B := (0, [(.aload_n 0, []), (.iload_n 1, []), (.invokevirtual 44, [81, 1, 6, 1]), (.ifCond .eq 10, [2, 1])], none)
noncomputable def bl_X6_remove_1 : am_B := (8, [(.aload_n 0, []), (.getfield 27, [6, 3, 2]), (.iload_n 1, []), (.iconst (-1), []), (.iastore, [])], some 2)
noncomputable def bl_X6_remove_2 : am_B := (15, [(.return_, [])], none)
noncomputable def bk_X6_remove : List am_B := [bl_X6_remove_0, bl_X6_remove_1, bl_X6_remove_2]
noncomputable def ck_X6_remove : List (List (Nat × List Nat)) := [[(1, []), (1, []), (3, [387, 376, 377, 81]), (3, [])],
  [(1, []), (3, [117]), (1, []), (1, []), (1, [])],
  [(1, [])]]
theorem ok_X6_remove : am_ck 87 bk_X6_remove ck_X6_remove = true := am_ckD (by decide +kernel)
theorem ml_X6_remove : am_ml 87 = 2 := by decide +kernel
theorem pn_X6_remove : plainName (am_y 87).cls = true := by decide +kernel
/-- PaceBorder$Shelf.get(II)I: number 88, loop heads [] -/
noncomputable def bl_X6_get_0 : am_B := (0, [(.iload_n 2, []), (.ifCond .lt 28, [3, 1])], none)
noncomputable def bl_X6_get_1 : am_B := (4, [(.iload_n 2, []), (.aload_n 0, []), (.iload_n 1, []), (.invokevirtual 40, [83, 1, 6, 1]), (.if_icmp .ge 19, [3, 2])], none)
noncomputable def bl_X6_get_2 : am_B := (13, [(.aload_n 0, []), (.getfield 31, [6, 4, 2]), (.iload_n 1, []), (.aload_n 0, []), (.getfield 21, [6, 1, 0]), (.imul, []), (.iload_n 2, []), (.iadd, []), (.iaload, []), (.goto 4, [4])], none)
noncomputable def bl_X6_get_3 : am_B := (29, [(.iconst 0, [])], some 4)
noncomputable def bl_X6_get_4 : am_B := (30, [(.ireturn, [0])], none)
noncomputable def bk_X6_get : List am_B := [bl_X6_get_0, bl_X6_get_1, bl_X6_get_2, bl_X6_get_3, bl_X6_get_4]
noncomputable def ck_X6_get : List (List (Nat × List Nat)) := [[(1, []), (3, [])],
  [(1, []), (1, []), (1, []), (3, [399, 400, 401, 81]), (3, [])],
  [(1, []), (3, [118]), (1, []), (1, []), (3, [115]), (1, []), (1, []), (1, []), (1, []), (3, [])],
  [(1, [])],
  [(1, [])]]
theorem ok_X6_get : am_ck 88 bk_X6_get ck_X6_get = true := am_ckD (by decide +kernel)
theorem ml_X6_get : am_ml 88 = 3 := by decide +kernel
theorem pn_X6_get : plainName (am_y 88).cls = true := by decide +kernel
/-- PaceBorder$Shelf.set(III)V: number 89, loop heads [] -/
noncomputable def bl_X6_set_0 : am_B := (0, [(.aload_n 0, []), (.iload_n 1, []), (.iload_n 2, []), (.invokevirtual 48, [84, 2, 6, 1]), (.ifCond .eq 17, [2, 1])], none)
noncomputable def bl_X6_set_1 : am_B := (9, [(.aload_n 0, []), (.getfield 31, [6, 4, 2]), (.iload_n 1, []), (.aload_n 0, []), (.getfield 21, [6, 1, 0]), (.imul, []), (.iload_n 2, []), (.iadd, []), (.iload_n 3, []), (.iastore, [])], some 2)
noncomputable def bl_X6_set_2 : am_B := (23, [(.return_, [])], none)
noncomputable def bk_X6_set : List am_B := [bl_X6_set_0, bl_X6_set_1, bl_X6_set_2]
noncomputable def ck_X6_set : List (List (Nat × List Nat)) := [[(1, []), (1, []), (1, []), (3, [415, 404, 405, 81]), (3, [])],
  [(1, []), (3, [118]), (1, []), (1, []), (3, [115]), (1, []), (1, []), (1, []), (1, []), (1, [])],
  [(1, [])]]
theorem ok_X6_set : am_ck 89 bk_X6_set ck_X6_set = true := am_ckD (by decide +kernel)
theorem ml_X6_set : am_ml 89 = 4 := by decide +kernel
theorem pn_X6_set : plainName (am_y 89).cls = true := by decide +kernel
/-- PaceBorder$Shelf.bring(IIIII)V: number 90, loop heads [] -/
noncomputable def bl_X6_bring_0 : am_B := (0, [(.aload_n 0, []), (.iload_n 1, []), (.iload_n 2, []), (.iload 5, []), (.invokevirtual 52, [85, 3, 6, 1]), (.ifCond .eq 45, [3, 1])], none)
noncomputable def bl_X6_bring_1 : am_B := (11, [(.aload_n 0, []), (.iload_n 3, []), (.iload 4, []), (.iload 5, []), (.invokevirtual 52, [85, 3, 6, 1]), (.ifCond .eq 33, [3, 2])], none)
noncomputable def bl_X6_bring_2 : am_B := (23, [(.aload_n 0, []), (.getfield 31, [6, 4, 2]), (.iload_n 1, []), (.aload_n 0, []), (.getfield 21, [6, 1, 0]), (.imul, []), (.iload_n 2, []), (.iadd, []), (.aload_n 0, []), (.getfield 31, [6, 4, 2]), (.iload_n 3, []), (.aload_n 0, []), (.getfield 21, [6, 1, 0]), (.imul, []), (.iload 4, []), (.iadd, []), (.iload 5, []), (.invokestatic 56, [1000000])], some 3)
noncomputable def bl_X6_bring_3 : am_B := (53, [(.return_, [])], none)
noncomputable def bk_X6_bring : List am_B := [bl_X6_bring_0, bl_X6_bring_1, bl_X6_bring_2, bl_X6_bring_3]
noncomputable def ck_X6_bring : List (List (Nat × List Nat)) := [[(1, []), (1, []), (1, []), (2, []), (3, [444, 437, 438, 81]), (3, [])],
  [(1, []), (1, []), (2, []), (2, []), (3, [444, 437, 438, 81]), (3, [])],
  [(1, []), (3, [118]), (1, []), (1, []), (3, [115]), (1, []), (1, []), (1, []), (1, []), (3, [118]), (1, []), (1, []), (3, [115]), (1, []), (2, []), (1, []), (2, []), (3, [445, 447, 446, 92])],
  [(1, [])]]
theorem ok_X6_bring : am_ck 90 bk_X6_bring ck_X6_bring = true := am_ckD (by decide +kernel)
theorem ml_X6_bring : am_ml 90 = 6 := by decide +kernel
theorem pn_X6_bring : plainName (am_y 90).cls = true := by decide +kernel
/-- PaceBorder$Shelf.sum(I)J: number 91, loop heads [1] -/
noncomputable def bl_X6_sum_0 : am_B := (0, [(.lconst 0, []), (.lstore_n 2, []), (.iconst 0, []), (.istore 4, [])], some 1001)
noncomputable def bl_X6_sum_1 : am_B := (5, [(.iload 4, []), (.aload_n 0, []), (.iload_n 1, []), (.invokevirtual 40, [83, 1, 6, 1]), (.if_icmp .ge 20, [1003, 2])], none)
noncomputable def bl_X6_sum_2 : am_B := (15, [(.lload_n 2, []), (.aload_n 0, []), (.iload_n 1, []), (.iload 4, []), (.invokevirtual 62, [88, 2, 6, 1]), (.i2l, []), (.ladd, []), (.lstore_n 2, []), (.iinc 4 1, []), (.goto (-24), [1001])], none)
noncomputable def bl_X6_sum_3 : am_B := (32, [(.lload_n 2, []), (.lreturn, [])], none)
noncomputable def bk_X6_sum : List am_B := [bl_X6_sum_0, bl_X6_sum_1, bl_X6_sum_2, bl_X6_sum_3]
noncomputable def ck_X6_sum : List (List (Nat × List Nat)) := [[(1, []), (1, []), (1, []), (2, [])],
  [(2, []), (1, []), (1, []), (3, [399, 400, 401, 81]), (3, [])],
  [(1, []), (1, []), (1, []), (2, []), (3, [457, 408, 409, 81]), (1, []), (1, []), (1, []), (3, []), (3, [])],
  [(1, []), (1, [])]]
theorem ok_X6_sum : am_ck 91 bk_X6_sum ck_X6_sum = true := am_ckD (by decide +kernel)
theorem ml_X6_sum : am_ml 91 = 5 := by decide +kernel
theorem pn_X6_sum : plainName (am_y 91).cls = true := by decide +kernel
/-- PaceBorder$Shelf.isAllWithin(III)Z: number 92, loop heads [1] -/
noncomputable def bl_X6_isAllWithin_0 : am_B := (0, [(.iconst 0, []), (.istore 4, [])], some 1001)
noncomputable def bl_X6_isAllWithin_1 : am_B := (3, [(.iload 4, []), (.aload_n 0, []), (.iload_n 1, []), (.invokevirtual 40, [83, 1, 6, 1]), (.if_icmp .ge 32, [1006, 2])], none)
noncomputable def bl_X6_isAllWithin_2 : am_B := (13, [(.aload_n 0, []), (.iload_n 1, []), (.iload 4, []), (.invokevirtual 62, [88, 2, 6, 1]), (.istore 5, []), (.iload 5, []), (.iload_n 2, []), (.if_icmp .lt 9, [1004, 3])], none)
noncomputable def bl_X6_isAllWithin_3 : am_B := (28, [(.iload 5, []), (.iload_n 3, []), (.if_icmp .le 5, [5, 1004])], none)
noncomputable def bl_X6_isAllWithin_4 : am_B := (34, [(.iconst 0, []), (.ireturn, [1])], none)
noncomputable def bl_X6_isAllWithin_5 : am_B := (36, [(.iinc 4 1, []), (.goto (-36), [1001])], none)
noncomputable def bl_X6_isAllWithin_6 : am_B := (42, [(.iconst 1, []), (.ireturn, [1])], none)
noncomputable def bk_X6_isAllWithin : List am_B := [bl_X6_isAllWithin_0, bl_X6_isAllWithin_1, bl_X6_isAllWithin_2, bl_X6_isAllWithin_3, bl_X6_isAllWithin_4, bl_X6_isAllWithin_5, bl_X6_isAllWithin_6]
noncomputable def ck_X6_isAllWithin : List (List (Nat × List Nat)) := [[(1, []), (2, [])],
  [(2, []), (1, []), (1, []), (3, [399, 400, 401, 81]), (3, [])],
  [(1, []), (1, []), (2, []), (3, [457, 408, 409, 81]), (2, []), (2, []), (1, []), (3, [])],
  [(2, []), (1, []), (3, [])],
  [(1, []), (1, [])],
  [(3, []), (3, [])],
  [(1, []), (1, [])]]
theorem ok_X6_isAllWithin : am_ck 92 bk_X6_isAllWithin ck_X6_isAllWithin = true := am_ckD (by decide +kernel)
theorem ml_X6_isAllWithin : am_ml 92 = 6 := by decide +kernel
theorem pn_X6_isAllWithin : plainName (am_y 92).cls = true := by decide +kernel
/-- PaceBorder$Shelf.howMany()I: number 93, loop heads [1] -/
noncomputable def bl_X6_howMany_0 : am_B := (0, [(.iconst 0, []), (.istore_n 1, []), (.iconst 0, []), (.istore_n 2, [])], some 1001)
noncomputable def bl_X6_howMany_1 : am_B := (4, [(.iload_n 2, []), (.aload_n 0, []), (.getfield 15, [6, 0, 0]), (.if_icmp .ge 20, [1005, 2])], none)
noncomputable def bl_X6_howMany_2 : am_B := (12, [(.aload_n 0, []), (.iload_n 2, []), (.invokevirtual 65, [82, 1, 6, 1]), (.ifCond .eq 6, [4, 3])], none)
noncomputable def bl_X6_howMany_3 : am_B := (20, [(.iinc 1 1, [])], some 4)
noncomputable def bl_X6_howMany_4 : am_B := (23, [(.iinc 2 1, []), (.goto (-22), [1001])], none)
noncomputable def bl_X6_howMany_5 : am_B := (29, [(.iload_n 1, []), (.ireturn, [0])], none)
noncomputable def bk_X6_howMany : List am_B := [bl_X6_howMany_0, bl_X6_howMany_1, bl_X6_howMany_2, bl_X6_howMany_3, bl_X6_howMany_4, bl_X6_howMany_5]
noncomputable def ck_X6_howMany : List (List (Nat × List Nat)) := [[(1, []), (1, []), (1, []), (1, [])],
  [(1, []), (1, []), (3, [114]), (3, [])],
  [(1, []), (1, []), (3, [1036, 396, 397, 81]), (3, [])],
  [(3, [])],
  [(3, []), (3, [])],
  [(1, []), (1, [])]]
theorem ok_X6_howMany : am_ck 93 bk_X6_howMany ck_X6_howMany = true := am_ckD (by decide +kernel)
theorem ml_X6_howMany : am_ml 93 = 3 := by decide +kernel
theorem pn_X6_howMany : plainName (am_y 93).cls = true := by decide +kernel
/-- PaceBorder$Shelf.digestOnto(J)J: number 94, loop heads [1, 3] -/
noncomputable def bl_X6_digestOnto_0 : am_B := (0, [(.iconst 0, []), (.istore_n 3, [])], some 1001)
noncomputable def bl_X6_digestOnto_1 : am_B := (2, [(.iload_n 3, []), (.aload_n 0, []), (.getfield 15, [6, 0, 0]), (.if_icmp .ge 56, [1006, 2])], none)
noncomputable def bl_X6_digestOnto_2 : am_B := (10, [(.ldc2_w 68, [31]), (.lload_n 1, []), (.lmul, []), (.aload_n 0, []), (.iload_n 3, []), (.invokevirtual 40, [83, 1, 6, 1]), (.i2l, []), (.ladd, []), (.lstore_n 1, []), (.iconst 0, []), (.istore 4, [])], some 1003)
noncomputable def bl_X6_digestOnto_3 : am_B := (26, [(.iload 4, []), (.aload_n 0, []), (.iload_n 3, []), (.invokevirtual 40, [83, 1, 6, 1]), (.if_icmp .ge 24, [1005, 4])], none)
noncomputable def bl_X6_digestOnto_4 : am_B := (36, [(.ldc2_w 68, [31]), (.lload_n 1, []), (.lmul, []), (.aload_n 0, []), (.iload_n 3, []), (.iload 4, []), (.invokevirtual 62, [88, 2, 6, 1]), (.i2l, []), (.ladd, []), (.lstore_n 1, []), (.iinc 4 1, []), (.goto (-28), [1003])], none)
noncomputable def bl_X6_digestOnto_5 : am_B := (57, [(.iinc 3 1, []), (.goto (-58), [1001])], none)
noncomputable def bl_X6_digestOnto_6 : am_B := (63, [(.lload_n 1, []), (.lreturn, [])], none)
noncomputable def bk_X6_digestOnto : List am_B := [bl_X6_digestOnto_0, bl_X6_digestOnto_1, bl_X6_digestOnto_2, bl_X6_digestOnto_3, bl_X6_digestOnto_4, bl_X6_digestOnto_5, bl_X6_digestOnto_6]
noncomputable def ck_X6_digestOnto : List (List (Nat × List Nat)) := [[(1, []), (1, [])],
  [(1, []), (1, []), (3, [114]), (3, [])],
  [(3, [1060]), (1, []), (1, []), (1, []), (1, []), (3, [399, 400, 401, 81]), (1, []), (1, []), (1, []), (1, []), (2, [])],
  [(2, []), (1, []), (1, []), (3, [399, 400, 401, 81]), (3, [])],
  [(3, [1060]), (1, []), (1, []), (1, []), (1, []), (2, []), (3, [457, 408, 409, 81]), (1, []), (1, []), (1, []), (3, []), (3, [])],
  [(3, []), (3, [])],
  [(1, []), (1, [])]]
theorem ok_X6_digestOnto : am_ck 94 bk_X6_digestOnto ck_X6_digestOnto = true := am_ckD (by decide +kernel)
theorem ml_X6_digestOnto : am_ml 94 = 5 := by decide +kernel
theorem pn_X6_digestOnto : plainName (am_y 94).cls = true := by decide +kernel
