section
/-- java/lang/Integer.compare(II)I: number 272, loop heads [] -/
noncomputable def bl_J6_compare_7cf53_0 : am_B := (0, [(.iload_n 0, []), (.iload_n 1, []), (.if_icmp .ge 7, [2, 1])], none)
noncomputable def bl_J6_compare_7cf53_1 : am_B := (5, [(.iconst (-1), []), (.goto 13, [5])], none)
noncomputable def bl_J6_compare_7cf53_2 : am_B := (9, [(.iload_n 0, []), (.iload_n 1, []), (.if_icmp .ne 7, [4, 3])], none)
noncomputable def bl_J6_compare_7cf53_3 : am_B := (14, [(.iconst 0, []), (.goto 4, [5])], none)
noncomputable def bl_J6_compare_7cf53_4 : am_B := (18, [(.iconst 1, [])], some 5)
noncomputable def bl_J6_compare_7cf53_5 : am_B := (19, [(.ireturn, [0])], none)
noncomputable def bk_J6_compare_7cf53 : List am_B := [bl_J6_compare_7cf53_0, bl_J6_compare_7cf53_1, bl_J6_compare_7cf53_2, bl_J6_compare_7cf53_3, bl_J6_compare_7cf53_4, bl_J6_compare_7cf53_5]
noncomputable def ck_J6_compare_7cf53 : List (List (Nat × List Nat)) := [[(1, []), (1, []), (3, [])],
  [(1, []), (3, [])],
  [(1, []), (1, []), (3, [])],
  [(1, []), (3, [])],
  [(1, [])],
  [(1, [])]]
theorem ok_J6_compare_7cf53 : am_ck 272 bk_J6_compare_7cf53 ck_J6_compare_7cf53 = true := am_ckD (by decide +kernel)
theorem ml_J6_compare_7cf53 : am_ml 272 = 2 := by decide +kernel
theorem pn_J6_compare_7cf53 : plainName (am_y 272).cls = true := by decide +kernel
end
section
/-- java/util/Arrays.fill([JJ)V: number 276, loop heads [1] -/
noncomputable def bl_J7_fill_d0a16_0 : am_B := (0, [(.iconst 0, []), (.istore_n 3, []), (.aload_n 0, []), (.arraylength, []), (.istore 4, [])], some 1001)
noncomputable def bl_J7_fill_d0a16_1 : am_B := (6, [(.iload_n 3, []), (.iload 4, []), (.if_icmp .ge 13, [1003, 2])], none)
noncomputable def bl_J7_fill_d0a16_2 : am_B := (12, [(.aload_n 0, []), (.iload_n 3, []), (.lload_n 1, []), (.lastore, []), (.iinc 3 1, []), (.goto (-13), [1001])], none)
noncomputable def bl_J7_fill_d0a16_3 : am_B := (22, [(.return_, [])], none)
noncomputable def bk_J7_fill_d0a16 : List am_B := [bl_J7_fill_d0a16_0, bl_J7_fill_d0a16_1, bl_J7_fill_d0a16_2, bl_J7_fill_d0a16_3]
noncomputable def ck_J7_fill_d0a16 : List (List (Nat × List Nat)) := [[(1, []), (1, []), (1, []), (1, []), (2, [])],
  [(1, []), (2, []), (3, [])],
  [(1, []), (1, []), (1, []), (1, []), (3, []), (3, [])],
  [(1, [])]]
theorem ok_J7_fill_d0a16 : am_ck 276 bk_J7_fill_d0a16 ck_J7_fill_d0a16 = true := am_ckD (by decide +kernel)
theorem ml_J7_fill_d0a16 : am_ml 276 = 5 := by decide +kernel
theorem pn_J7_fill_d0a16 : plainName (am_y 276).cls = true := by decide +kernel
/-- java/util/Arrays.fill([II)V: number 277, loop heads [1] -/
noncomputable def bl_J7_fill_53178_0 : am_B := (0, [(.iconst 0, []), (.istore_n 2, []), (.aload_n 0, []), (.arraylength, []), (.istore_n 3, [])], some 1001)
noncomputable def bl_J7_fill_53178_1 : am_B := (5, [(.iload_n 2, []), (.iload_n 3, []), (.if_icmp .ge 13, [1003, 2])], none)
noncomputable def bl_J7_fill_53178_2 : am_B := (10, [(.aload_n 0, []), (.iload_n 2, []), (.iload_n 1, []), (.iastore, []), (.iinc 2 1, []), (.goto (-12), [1001])], none)
noncomputable def bl_J7_fill_53178_3 : am_B := (20, [(.return_, [])], none)
noncomputable def bk_J7_fill_53178 : List am_B := [bl_J7_fill_53178_0, bl_J7_fill_53178_1, bl_J7_fill_53178_2, bl_J7_fill_53178_3]
noncomputable def ck_J7_fill_53178 : List (List (Nat × List Nat)) := [[(1, []), (1, []), (1, []), (1, []), (1, [])],
  [(1, []), (1, []), (3, [])],
  [(1, []), (1, []), (1, []), (1, []), (3, []), (3, [])],
  [(1, [])]]
theorem ok_J7_fill_53178 : am_ck 277 bk_J7_fill_53178 ck_J7_fill_53178 = true := am_ckD (by decide +kernel)
theorem ml_J7_fill_53178 : am_ml 277 = 4 := by decide +kernel
theorem pn_J7_fill_53178 : plainName (am_y 277).cls = true := by decide +kernel
end
section
/-- PaceBorder$Shelf.<init>(III)V: number 80, loop heads [] -/
noncomputable def bl_X6_init_0 : am_B := (0, [(.aload_n 0, []), (.invokespecial 3, [1000000]), (.aload_n 0, []), (.iconst 0, []), (.iload_n 1, []), (.invokestatic 9, [0, 0]), (.putfield 15, [6, 0, 0, 1]), (.aload_n 0, []), (.iconst 0, []), (.iload_n 2, []), (.invokestatic 9, [0, 0]), (.putfield 21, [6, 1, 0, 1]), (.aload_n 0, []), (.iload_n 3, []), (.putfield 24, [6, 2, 0, 1]), (.aload_n 0, []), (.aload_n 0, []), (.getfield 15, [6, 0, 0]), (.newarray .int, [10]), (.putfield 27, [6, 3, 2, 1]), (.aload_n 0, []), (.aload_n 0, []), (.getfield 15, [6, 0, 0]), (.aload_n 0, []), (.getfield 21, [6, 1, 0]), (.imul, []), (.newarray .int, [10]), (.putfield 31, [6, 4, 2, 1]), (.aload_n 0, []), (.getfield 27, [6, 3, 2]), (.iconst (-1), []), (.invokestatic 34, [277, 2, 0, 0]), (.return_, [])], none)
noncomputable def bk_X6_init : List am_B := [bl_X6_init_0]
noncomputable def ck_X6_init : List (List (Nat × List Nat)) := [[(1, []), (3, [107, 100, 101]), (1, []), (1, []), (1, []), (3, [108, 109, 82, 110]), (3, [114]), (1, []), (1, []), (1, []), (3, [108, 109, 82, 110]), (3, [115]), (1, []), (1, []), (3, [116]), (1, []), (1, []), (3, [114]), (2, []), (3, [117]), (1, []), (1, []), (3, [114]), (1, []), (3, [115]), (1, []), (2, []), (3, [118]), (1, []), (3, [117]), (1, []), (3, [111, 112, 83]), (1, [])]]
theorem ok_X6_init : am_ck 80 bk_X6_init ck_X6_init = true := am_ckD (by decide +kernel)
theorem ml_X6_init : am_ml 80 = 4 := by decide +kernel
theorem pn_X6_init : plainName (am_y 80).cls = true := by decide +kernel
/-- PaceBorder$Shelf.isNumber(I)Z: number 81, loop heads [] -/
noncomputable def bl_X6_isNumber_0 : am_B := (0, [(.iload_n 1, []), (.ifCond .lt 15, [3, 1])], none)
noncomputable def bl_X6_isNumber_1 : am_B := (4, [(.iload_n 1, []), (.aload_n 0, []), (.getfield 15, [6, 0, 0]), (.if_icmp .ge 7, [3, 2])], none)
noncomputable def bl_X6_isNumber_2 : am_B := (12, [(.iconst 1, []), (.goto 4, [4])], none)
noncomputable def bl_X6_isNumber_3 : am_B := (16, [(.iconst 0, [])], some 4)
noncomputable def bl_X6_isNumber_4 : am_B := (17, [(.ireturn, [1])], none)
noncomputable def bk_X6_isNumber : List am_B := [bl_X6_isNumber_0, bl_X6_isNumber_1, bl_X6_isNumber_2, bl_X6_isNumber_3, bl_X6_isNumber_4]
noncomputable def ck_X6_isNumber : List (List (Nat × List Nat)) := [[(1, []), (3, [])],
  [(1, []), (1, []), (3, [114]), (3, [])],
  [(1, []), (3, [])],
  [(1, [])],
  [(1, [])]]
theorem ok_X6_isNumber : am_ck 81 bk_X6_isNumber ck_X6_isNumber = true := am_ckD (by decide +kernel)
theorem ml_X6_isNumber : am_ml 81 = 2 := by decide +kernel
theorem pn_X6_isNumber : plainName (am_y 81).cls = true := by decide +kernel
/-- PaceBorder$Shelf.isThere(I)Z: number 82, loop heads [] -/
noncomputable def bl_X6_isThere_0 : am_B := (0, [(.aload_n 0, []), (.iload_n 1, []), (.invokevirtual 40, [83, 1, 6, 1]), (.iconst (-1), []), (.if_icmp .eq 7, [2, 1])], none)
noncomputable def bl_X6_isThere_1 : am_B := (9, [(.iconst 1, []), (.goto 4, [3])], none)
noncomputable def bl_X6_isThere_2 : am_B := (13, [(.iconst 0, [])], some 3)
noncomputable def bl_X6_isThere_3 : am_B := (14, [(.ireturn, [1])], none)
noncomputable def bk_X6_isThere : List am_B := [bl_X6_isThere_0, bl_X6_isThere_1, bl_X6_isThere_2, bl_X6_isThere_3]
noncomputable def ck_X6_isThere : List (List (Nat × List Nat)) := [[(1, []), (1, []), (3, [399, 400, 401, 81]), (1, []), (3, [])],
  [(1, []), (3, [])],
  [(1, [])],
  [(1, [])]]
theorem ok_X6_isThere : am_ck 82 bk_X6_isThere ck_X6_isThere = true := am_ckD (by decide +kernel)
theorem ml_X6_isThere : am_ml 82 = 2 := by decide +kernel
theorem pn_X6_isThere : plainName (am_y 82).cls = true := by decide +kernel
/-- PaceBorder$Shelf.sizeOf(I)I: number 83, loop heads [] -/
noncomputable def bl_X6_sizeOf_0 : am_B := (0, [(.iload_n 1, []), (.ifCond .lt 20, [3, 1])], none)
noncomputable def bl_X6_sizeOf_1 : am_B := (4, [(.iload_n 1, []), (.aload_n 0, []), (.getfield 15, [6, 0, 0]), (.if_icmp .ge 12, [3, 2])], none)
noncomputable def bl_X6_sizeOf_2 : am_B := (12, [(.aload_n 0, []), (.getfield 27, [6, 3, 2]), (.iload_n 1, []), (.iaload, []), (.goto 4, [4])], none)
noncomputable def bl_X6_sizeOf_3 : am_B := (21, [(.iconst (-1), [])], some 4)
noncomputable def bl_X6_sizeOf_4 : am_B := (22, [(.ireturn, [0])], none)
noncomputable def bk_X6_sizeOf : List am_B := [bl_X6_sizeOf_0, bl_X6_sizeOf_1, bl_X6_sizeOf_2, bl_X6_sizeOf_3, bl_X6_sizeOf_4]
noncomputable def ck_X6_sizeOf : List (List (Nat × List Nat)) := [[(1, []), (3, [])],
  [(1, []), (1, []), (3, [114]), (3, [])],
  [(1, []), (3, [117]), (1, []), (1, []), (3, [])],
  [(1, [])],
  [(1, [])]]
theorem ok_X6_sizeOf : am_ck 83 bk_X6_sizeOf ck_X6_sizeOf = true := am_ckD (by decide +kernel)
theorem ml_X6_sizeOf : am_ml 83 = 2 := by decide +kernel
theorem pn_X6_sizeOf : plainName (am_y 83).cls = true := by decide +kernel
/-- PaceBorder$Shelf.hasPlace(II)Z: number 84, loop heads [] -/
noncomputable def bl_X6_hasPlace_0 : am_B := (0, [(.iload_n 2, []), (.ifCond .lt 16, [3, 1])], none)
noncomputable def bl_X6_hasPlace_1 : am_B := (4, [(.iload_n 2, []), (.aload_n 0, []), (.iload_n 1, []), (.invokevirtual 40, [83, 1, 6, 1]), (.if_icmp .ge 7, [3, 2])], none)
noncomputable def bl_X6_hasPlace_2 : am_B := (13, [(.iconst 1, []), (.goto 4, [4])], none)
noncomputable def bl_X6_hasPlace_3 : am_B := (17, [(.iconst 0, [])], some 4)
noncomputable def bl_X6_hasPlace_4 : am_B := (18, [(.ireturn, [1])], none)
noncomputable def bk_X6_hasPlace : List am_B := [bl_X6_hasPlace_0, bl_X6_hasPlace_1, bl_X6_hasPlace_2, bl_X6_hasPlace_3, bl_X6_hasPlace_4]
noncomputable def ck_X6_hasPlace : List (List (Nat × List Nat)) := [[(1, []), (3, [])],
  [(1, []), (1, []), (1, []), (3, [399, 400, 401, 81]), (3, [])],
  [(1, []), (3, [])],
  [(1, [])],
  [(1, [])]]
theorem ok_X6_hasPlace : am_ck 84 bk_X6_hasPlace ck_X6_hasPlace = true := am_ckD (by decide +kernel)
theorem ml_X6_hasPlace : am_ml 84 = 3 := by decide +kernel
theorem pn_X6_hasPlace : plainName (am_y 84).cls = true := by decide +kernel
/-- PaceBorder$Shelf.holds(III)Z: number 85, loop heads [] -/
noncomputable def bl_X6_holds_0 : am_B := (0, [(.iload_n 2, []), (.ifCond .lt 22, [4, 1])], none)
noncomputable def bl_X6_holds_1 : am_B := (4, [(.iload_n 3, []), (.ifCond .lt 18, [4, 2])], none)
noncomputable def bl_X6_holds_2 : am_B := (8, [(.iload_n 3, []), (.aload_n 0, []), (.iload_n 1, []), (.invokevirtual 40, [83, 1, 6, 1]), (.iload_n 2, []), (.isub, []), (.if_icmp .gt 7, [4, 3])], none)
noncomputable def bl_X6_holds_3 : am_B := (19, [(.iconst 1, []), (.goto 4, [5])], none)
noncomputable def bl_X6_holds_4 : am_B := (23, [(.iconst 0, [])], some 5)
noncomputable def bl_X6_holds_5 : am_B := (24, [(.ireturn, [1])], none)
noncomputable def bk_X6_holds : List am_B := [bl_X6_holds_0, bl_X6_holds_1, bl_X6_holds_2, bl_X6_holds_3, bl_X6_holds_4, bl_X6_holds_5]
noncomputable def ck_X6_holds : List (List (Nat × List Nat)) := [[(1, []), (3, [])],
  [(1, []), (3, [])],
  [(1, []), (1, []), (1, []), (3, [399, 400, 401, 81]), (1, []), (1, []), (3, [])],
  [(1, []), (3, [])],
  [(1, [])],
  [(1, [])]]
theorem ok_X6_holds : am_ck 85 bk_X6_holds ck_X6_holds = true := am_ckD (by decide +kernel)
theorem ml_X6_holds : am_ml 85 = 4 := by decide +kernel
theorem pn_X6_holds : plainName (am_y 85).cls = true := by decide +kernel
/-- PaceBorder$Shelf.make(II)V: number 86, loop heads [5] -/
noncomputable def bl_X6_make_0 : am_B := (0, [(.aload_n 0, []), (.iload_n 1, []), (.invokevirtual 44, [81, 1, 6, 1]), (.ifCond .eq 15, [3, 1])], none)
noncomputable def bl_X6_make_1 : am_B := (8, [(.iload_n 2, []), (.ifCond .lt 11, [3, 2])], none)
noncomputable def bl_X6_make_2 : am_B := (12, [(.iload_n 2, []), (.aload_n 0, []), (.getfield 21, [6, 1, 0]), (.if_icmp .le 4, [4, 3])], none)
noncomputable def bl_X6_make_3 : am_B := (20, [(.return_, [])], none)
noncomputable def bl_X6_make_4 : am_B := (21, [(.aload_n 0, []), (.getfield 27, [6, 3, 2]), (.iload_n 1, []), (.iload_n 2, []), (.iastore, []), (.iconst 0, []), (.istore_n 3, [])], some 1005)
noncomputable def bl_X6_make_5 : am_B := (30, [(.iload_n 3, []), (.iload_n 2, []), (.if_icmp .ge 26, [1007, 6])], none)
noncomputable def bl_X6_make_6 : am_B := (35, [(.aload_n 0, []), (.getfield 31, [6, 4, 2]), (.iload_n 1, []), (.aload_n 0, []), (.getfield 21, [6, 1, 0]), (.imul, []), (.iload_n 3, []), (.iadd, []), (.aload_n 0, []), (.getfield 24, [6, 2, 0]), (.iastore, []), (.iinc 3 1, []), (.goto (-25), [1005])], none)
noncomputable def bl_X6_make_7 : am_B := (58, [(.return_, [])], none)
noncomputable def bk_X6_make : List am_B := [bl_X6_make_0, bl_X6_make_1, bl_X6_make_2, bl_X6_make_3, bl_X6_make_4, bl_X6_make_5, bl_X6_make_6, bl_X6_make_7]
noncomputable def ck_X6_make : List (List (Nat × List Nat)) := [[(1, []), (1, []), (3, [387, 376, 377, 81]), (3, [])],
  [(1, []), (3, [])],
  [(1, []), (1, []), (3, [115]), (3, [])],
  [(1, [])],
  [(1, []), (3, [117]), (1, []), (1, []), (1, []), (1, []), (1, [])],
  [(1, []), (1, []), (3, [])],
  [(1, []), (3, [118]), (1, []), (1, []), (3, [115]), (1, []), (1, []), (1, []), (1, []), (3, [116]), (1, []), (3, []), (3, [])],
  [(1, [])]]
theorem ok_X6_make : am_ck 86 bk_X6_make ck_X6_make = true := am_ckD (by decide +kernel)
theorem ml_X6_make : am_ml 86 = 4 := by decide +kernel
theorem pn_X6_make : plainName (am_y 86).cls = true := by decide +kernel
/-- PaceBorder$Shelf.remove(I)V: number 87, loop heads [] -/
noncomputable def bl_X6_remove_0 : am_B := (0, [(.aload_n 0, []), (.iload_n 1, []), (.invokevirtual 44, [81, 1, 6, 1]), (.ifCond .eq 10, [2, 1])], none)
noncomputable def bl_X6_remove_1 : am_B := (8, [(.aload_n 0, []), (.getfield 27, [6, 3, 2]), (.iload_n 1, []), (.iconst (-1), []), (.iastore, [])], some 2)
noncomputable def bl_X6_remove_2 : am_B := (15, [(.return_, [])], none)
noncomputable def bk_X6_remove : List am_B := [bl_X6_remove_0, bl_X6_remove_1, bl_X6_remove_2]
noncomputable def ck_X6_remove : List (List (Nat × List Nat)) := [[(1, []), (1, []), (3, [387, 376, 377, 81]), (3, [])],
  [(1, []), (3, [117]), (1, []), (1, []), (1, [])],
  [(1, [])]]
theorem ok_X6_remove : am_ck 87 bk_X6_remove ck_X6_remove = true := am_ckD (by decide +kernel)
theorem ml_X6_remove : am_ml 87 = 2 := by decide +kernel
theorem pn_X6_remove : plainName (am_y 87).cls = true := by decide +kernel
/-- PaceBorder$Shelf.get(II)I: number 88, loop heads [] -/
noncomputable def bl_X6_get_0 : am_B := (0, [(.iload_n 2, []), (.ifCond .lt 28, [3, 1])], none)
noncomputable def bl_X6_get_1 : am_B := (4, [(.iload_n 2, []), (.aload_n 0, []), (.iload_n 1, []), (.invokevirtual 40, [83, 1, 6, 1]), (.if_icmp .ge 19, [3, 2])], none)
noncomputable def bl_X6_get_2 : am_B := (13, [(.aload_n 0, []), (.getfield 31, [6, 4, 2]), (.iload_n 1, []), (.aload_n 0, []), (.getfield 21, [6, 1, 0]), (.imul, []), (.iload_n 2, []), (.iadd, []), (.iaload, []), (.goto 4, [4])], none)
noncomputable def bl_X6_get_3 : am_B := (29, [(.iconst 0, [])], some 4)
noncomputable def bl_X6_get_4 : am_B := (30, [(.ireturn, [0])], none)
noncomputable def bk_X6_get : List am_B := [bl_X6_get_0, bl_X6_get_1, bl_X6_get_2, bl_X6_get_3, bl_X6_get_4]
noncomputable def ck_X6_get : List (List (Nat × List Nat)) := [[(1, []), (3, [])],
  [(1, []), (1, []), (1, []), (3, [399, 400, 401, 81]), (3, [])],
  [(1, []), (3, [118]), (1, []), (1, []), (3, [115]), (1, []), (1, []), (1, []), (1, []), (3, [])],
  [(1, [])],
  [(1, [])]]
theorem ok_X6_get : am_ck 88 bk_X6_get ck_X6_get = true := am_ckD (by decide +kernel)
theorem ml_X6_get : am_ml 88 = 3 := by decide +kernel
theorem pn_X6_get : plainName (am_y 88).cls = true := by decide +kernel
/-- PaceBorder$Shelf.set(III)V: number 89, loop heads [] -/
noncomputable def bl_X6_set_0 : am_B := (0, [(.aload_n 0, []), (.iload_n 1, []), (.iload_n 2, []), (.invokevirtual 48, [84, 2, 6, 1]), (.ifCond .eq 17, [2, 1])], none)
noncomputable def bl_X6_set_1 : am_B := (9, [(.aload_n 0, []), (.getfield 31, [6, 4, 2]), (.iload_n 1, []), (.aload_n 0, []), (.getfield 21, [6, 1, 0]), (.imul, []), (.iload_n 2, []), (.iadd, []), (.iload_n 3, []), (.iastore, [])], some 2)
noncomputable def bl_X6_set_2 : am_B := (23, [(.return_, [])], none)
noncomputable def bk_X6_set : List am_B := [bl_X6_set_0, bl_X6_set_1, bl_X6_set_2]
noncomputable def ck_X6_set : List (List (Nat × List Nat)) := [[(1, []), (1, []), (1, []), (3, [415, 404, 405, 81]), (3, [])],
  [(1, []), (3, [118]), (1, []), (1, []), (3, [115]), (1, []), (1, []), (1, []), (1, []), (1, [])],
  [(1, [])]]
theorem ok_X6_set : am_ck 89 bk_X6_set ck_X6_set = true := am_ckD (by decide +kernel)
theorem ml_X6_set : am_ml 89 = 4 := by decide +kernel
theorem pn_X6_set : plainName (am_y 89).cls = true := by decide +kernel
/-- PaceBorder$Shelf.bring(IIIII)V: number 90, loop heads [] -/
noncomputable def bl_X6_bring_0 : am_B := (0, [(.aload_n 0, []), (.iload_n 1, []), (.iload_n 2, []), (.iload 5, []), (.invokevirtual 52, [85, 3, 6, 1]), (.ifCond .eq 45, [3, 1])], none)
noncomputable def bl_X6_bring_1 : am_B := (11, [(.aload_n 0, []), (.iload_n 3, []), (.iload 4, []), (.iload 5, []), (.invokevirtual 52, [85, 3, 6, 1]), (.ifCond .eq 33, [3, 2])], none)
noncomputable def bl_X6_bring_2 : am_B := (23, [(.aload_n 0, []), (.getfield 31, [6, 4, 2]), (.iload_n 1, []), (.aload_n 0, []), (.getfield 21, [6, 1, 0]), (.imul, []), (.iload_n 2, []), (.iadd, []), (.aload_n 0, []), (.getfield 31, [6, 4, 2]), (.iload_n 3, []), (.aload_n 0, []), (.getfield 21, [6, 1, 0]), (.imul, []), (.iload 4, []), (.iadd, []), (.iload 5, []), (.invokestatic 56, [1000000])], some 3)
noncomputable def bl_X6_bring_3 : am_B := (53, [(.return_, [])], none)
noncomputable def bk_X6_bring : List am_B := [bl_X6_bring_0, bl_X6_bring_1, bl_X6_bring_2, bl_X6_bring_3]
noncomputable def ck_X6_bring : List (List (Nat × List Nat)) := [[(1, []), (1, []), (1, []), (2, []), (3, [444, 437, 438, 81]), (3, [])],
  [(1, []), (1, []), (2, []), (2, []), (3, [444, 437, 438, 81]), (3, [])],
  [(1, []), (3, [118]), (1, []), (1, []), (3, [115]), (1, []), (1, []), (1, []), (1, []), (3, [118]), (1, []), (1, []), (3, [115]), (1, []), (2, []), (1, []), (2, []), (3, [445, 447, 446, 92])],
  [(1, [])]]
theorem ok_X6_bring : am_ck 90 bk_X6_bring ck_X6_bring = true := am_ckD (by decide +kernel)
theorem ml_X6_bring : am_ml 90 = 6 := by decide +kernel
theorem pn_X6_bring : plainName (am_y 90).cls = true := by decide +kernel
/-- PaceBorder$Shelf.sum(I)J: number 91, loop heads [1] -/
noncomputable def bl_X6_sum_0 : am_B := (0, [(.lconst 0, []), (.lstore_n 2, []), (.iconst 0, []), (.istore 4, [])], some 1001)
noncomputable def bl_X6_sum_1 : am_B := (5, [(.iload 4, []), (.aload_n 0, []), (.iload_n 1, []), (.invokevirtual 40, [83, 1, 6, 1]), (.if_icmp .ge 20, [1003, 2])], none)
noncomputable def bl_X6_sum_2 : am_B := (15, [(.lload_n 2, []), (.aload_n 0, []), (.iload_n 1, []), (.iload 4, []), (.invokevirtual 62, [88, 2, 6, 1]), (.i2l, []), (.ladd, []), (.lstore_n 2, []), (.iinc 4 1, []), (.goto (-24), [1001])], none)
noncomputable def bl_X6_sum_3 : am_B := (32, [(.lload_n 2, []), (.lreturn, [])], none)
noncomputable def bk_X6_sum : List am_B := [bl_X6_sum_0, bl_X6_sum_1, bl_X6_sum_2, bl_X6_sum_3]
noncomputable def ck_X6_sum : List (List (Nat × List Nat)) := [[(1, []), (1, []), (1, []), (2, [])],
  [(2, []), (1, []), (1, []), (3, [399, 400, 401, 81]), (3, [])],
  [(1, []), (1, []), (1, []), (2, []), (3, [457, 408, 409, 81]), (1, []), (1, []), (1, []), (3, []), (3, [])],
  [(1, []), (1, [])]]
theorem ok_X6_sum : am_ck 91 bk_X6_sum ck_X6_sum = true := am_ckD (by decide +kernel)
theorem ml_X6_sum : am_ml 91 = 5 := by decide +kernel
theorem pn_X6_sum : plainName (am_y 91).cls = true := by decide +kernel
/-- PaceBorder$Shelf.isAllWithin(III)Z: number 92, loop heads [1] -/
noncomputable def bl_X6_isAllWithin_0 : am_B := (0, [(.iconst 0, []), (.istore 4, [])], some 1001)
noncomputable def bl_X6_isAllWithin_1 : am_B := (3, [(.iload 4, []), (.aload_n 0, []), (.iload_n 1, []), (.invokevirtual 40, [83, 1, 6, 1]), (.if_icmp .ge 32, [1006, 2])], none)
noncomputable def bl_X6_isAllWithin_2 : am_B := (13, [(.aload_n 0, []), (.iload_n 1, []), (.iload 4, []), (.invokevirtual 62, [88, 2, 6, 1]), (.istore 5, []), (.iload 5, []), (.iload_n 2, []), (.if_icmp .lt 9, [1004, 3])], none)
noncomputable def bl_X6_isAllWithin_3 : am_B := (28, [(.iload 5, []), (.iload_n 3, []), (.if_icmp .le 5, [5, 1004])], none)
noncomputable def bl_X6_isAllWithin_4 : am_B := (34, [(.iconst 0, []), (.ireturn, [1])], none)
noncomputable def bl_X6_isAllWithin_5 : am_B := (36, [(.iinc 4 1, []), (.goto (-36), [1001])], none)
noncomputable def bl_X6_isAllWithin_6 : am_B := (42, [(.iconst 1, []), (.ireturn, [1])], none)
noncomputable def bk_X6_isAllWithin : List am_B := [bl_X6_isAllWithin_0, bl_X6_isAllWithin_1, bl_X6_isAllWithin_2, bl_X6_isAllWithin_3, bl_X6_isAllWithin_4, bl_X6_isAllWithin_5, bl_X6_isAllWithin_6]
noncomputable def ck_X6_isAllWithin : List (List (Nat × List Nat)) := [[(1, []), (2, [])],
  [(2, []), (1, []), (1, []), (3, [399, 400, 401, 81]), (3, [])],
  [(1, []), (1, []), (2, []), (3, [457, 408, 409, 81]), (2, []), (2, []), (1, []), (3, [])],
  [(2, []), (1, []), (3, [])],
  [(1, []), (1, [])],
  [(3, []), (3, [])],
  [(1, []), (1, [])]]
theorem ok_X6_isAllWithin : am_ck 92 bk_X6_isAllWithin ck_X6_isAllWithin = true := am_ckD (by decide +kernel)
theorem ml_X6_isAllWithin : am_ml 92 = 6 := by decide +kernel
theorem pn_X6_isAllWithin : plainName (am_y 92).cls = true := by decide +kernel
/-- PaceBorder$Shelf.howMany()I: number 93, loop heads [1] -/
noncomputable def bl_X6_howMany_0 : am_B := (0, [(.iconst 0, []), (.istore_n 1, []), (.iconst 0, []), (.istore_n 2, [])], some 1001)
noncomputable def bl_X6_howMany_1 : am_B := (4, [(.iload_n 2, []), (.aload_n 0, []), (.getfield 15, [6, 0, 0]), (.if_icmp .ge 20, [1005, 2])], none)
noncomputable def bl_X6_howMany_2 : am_B := (12, [(.aload_n 0, []), (.iload_n 2, []), (.invokevirtual 65, [82, 1, 6, 1]), (.ifCond .eq 6, [4, 3])], none)
noncomputable def bl_X6_howMany_3 : am_B := (20, [(.iinc 1 1, [])], some 4)
noncomputable def bl_X6_howMany_4 : am_B := (23, [(.iinc 2 1, []), (.goto (-22), [1001])], none)
noncomputable def bl_X6_howMany_5 : am_B := (29, [(.iload_n 1, []), (.ireturn, [0])], none)
noncomputable def bk_X6_howMany : List am_B := [bl_X6_howMany_0, bl_X6_howMany_1, bl_X6_howMany_2, bl_X6_howMany_3, bl_X6_howMany_4, bl_X6_howMany_5]
noncomputable def ck_X6_howMany : List (List (Nat × List Nat)) := [[(1, []), (1, []), (1, []), (1, [])],
  [(1, []), (1, []), (3, [114]), (3, [])],
  [(1, []), (1, []), (3, [1036, 396, 397, 81]), (3, [])],
  [(3, [])],
  [(3, []), (3, [])],
  [(1, []), (1, [])]]
theorem ok_X6_howMany : am_ck 93 bk_X6_howMany ck_X6_howMany = true := am_ckD (by decide +kernel)
theorem ml_X6_howMany : am_ml 93 = 3 := by decide +kernel
theorem pn_X6_howMany : plainName (am_y 93).cls = true := by decide +kernel
/-- PaceBorder$Shelf.digestOnto(J)J: number 94, loop heads [1, 3] -/
noncomputable def bl_X6_digestOnto_0 : am_B := (0, [(.iconst 0, []), (.istore_n 3, [])], some 1001)
noncomputable def bl_X6_digestOnto_1 : am_B := (2, [(.iload_n 3, []), (.aload_n 0, []), (.getfield 15, [6, 0, 0]), (.if_icmp .ge 56, [1006, 2])], none)
noncomputable def bl_X6_digestOnto_2 : am_B := (10, [(.ldc2_w 68, [31]), (.lload_n 1, []), (.lmul, []), (.aload_n 0, []), (.iload_n 3, []), (.invokevirtual 40, [83, 1, 6, 1]), (.i2l, []), (.ladd, []), (.lstore_n 1, []), (.iconst 0, []), (.istore 4, [])], some 1003)
noncomputable def bl_X6_digestOnto_3 : am_B := (26, [(.iload 4, []), (.aload_n 0, []), (.iload_n 3, []), (.invokevirtual 40, [83, 1, 6, 1]), (.if_icmp .ge 24, [1005, 4])], none)
noncomputable def bl_X6_digestOnto_4 : am_B := (36, [(.ldc2_w 68, [31]), (.lload_n 1, []), (.lmul, []), (.aload_n 0, []), (.iload_n 3, []), (.iload 4, []), (.invokevirtual 62, [88, 2, 6, 1]), (.i2l, []), (.ladd, []), (.lstore_n 1, []), (.iinc 4 1, []), (.goto (-28), [1003])], none)
noncomputable def bl_X6_digestOnto_5 : am_B := (57, [(.iinc 3 1, []), (.goto (-58), [1001])], none)
noncomputable def bl_X6_digestOnto_6 : am_B := (63, [(.lload_n 1, []), (.lreturn, [])], none)
noncomputable def bk_X6_digestOnto : List am_B := [bl_X6_digestOnto_0, bl_X6_digestOnto_1, bl_X6_digestOnto_2, bl_X6_digestOnto_3, bl_X6_digestOnto_4, bl_X6_digestOnto_5, bl_X6_digestOnto_6]
noncomputable def ck_X6_digestOnto : List (List (Nat × List Nat)) := [[(1, []), (1, [])],
  [(1, []), (1, []), (3, [114]), (3, [])],
  [(3, [1060]), (1, []), (1, []), (1, []), (1, []), (3, [399, 400, 401, 81]), (1, []), (1, []), (1, []), (1, []), (2, [])],
  [(2, []), (1, []), (1, []), (3, [399, 400, 401, 81]), (3, [])],
  [(3, [1060]), (1, []), (1, []), (1, []), (1, []), (2, []), (3, [457, 408, 409, 81]), (1, []), (1, []), (1, []), (3, []), (3, [])],
  [(3, []), (3, [])],
  [(1, []), (1, [])]]
theorem ok_X6_digestOnto : am_ck 94 bk_X6_digestOnto ck_X6_digestOnto = true := am_ckD (by decide +kernel)
theorem ml_X6_digestOnto : am_ml 94 = 5 := by decide +kernel
theorem pn_X6_digestOnto : plainName (am_y 94).cls = true := by decide +kernel
end
section
/-- PaceBorder$Ground.<init>()V: number 27, loop heads [] -/
noncomputable def bl_X2_init_0 : am_B := (0, [(.aload_n 0, []), (.invokespecial 3, [1000000]), (.aload_n 0, []), (.bipush 12, []), (.newarray .int, [10]), (.putfield 9, [2, 1, 2, 1]), (.aload_n 0, []), (.bipush 12, []), (.newarray .int, [10]), (.putfield 15, [2, 2, 2, 1]), (.return_, [])], none)
noncomputable def bk_X2_init : List am_B := [bl_X2_init_0]
noncomputable def ck_X2_init : List (List (Nat × List Nat)) := [[(1, []), (3, [142, 100, 101]), (1, []), (2, []), (2, []), (3, [151]), (1, []), (2, []), (2, []), (3, [152]), (1, [])]]
theorem ok_X2_init : am_ck 27 bk_X2_init ck_X2_init = true := am_ckD (by decide +kernel)
theorem ml_X2_init : am_ml 27 = 1 := by decide +kernel
theorem pn_X2_init : plainName (am_y 27).cls = true := by decide +kernel
/-- PaceBorder$Ground.clear()V: number 28, loop heads [] -/
noncomputable def bl_X2_clear_0 : am_B := (0, [(.aload_n 0, []), (.iconst 0, []), (.putfield 18, [2, 0, 0, 0]), (.return_, [])], none)
noncomputable def bk_X2_clear : List am_B := [bl_X2_clear_0]
noncomputable def ck_X2_clear : List (List (Nat × List Nat)) := [[(1, []), (1, []), (3, [143]), (1, [])]]
theorem ok_X2_clear : am_ck 28 bk_X2_clear ck_X2_clear = true := am_ckD (by decide +kernel)
theorem ml_X2_clear : am_ml 28 = 1 := by decide +kernel
theorem pn_X2_clear : plainName (am_y 28).cls = true := by decide +kernel
/-- PaceBorder$Ground.hasRoom()Z: number 29, loop heads [] -/
noncomputable def bl_X2_hasRoom_0 : am_B := (0, [(.aload_n 0, []), (.getfield 18, [2, 0, 0]), (.bipush 12, []), (.if_icmp .ge 7, [2, 1])], none)
noncomputable def bl_X2_hasRoom_1 : am_B := (9, [(.iconst 1, []), (.goto 4, [3])], none)
noncomputable def bl_X2_hasRoom_2 : am_B := (13, [(.iconst 0, [])], some 3)
noncomputable def bl_X2_hasRoom_3 : am_B := (14, [(.ireturn, [1])], none)
noncomputable def bk_X2_hasRoom : List am_B := [bl_X2_hasRoom_0, bl_X2_hasRoom_1, bl_X2_hasRoom_2, bl_X2_hasRoom_3]
noncomputable def ck_X2_hasRoom : List (List (Nat × List Nat)) := [[(1, []), (3, [143]), (2, []), (3, [])],
  [(1, []), (3, [])],
  [(1, [])],
  [(1, [])]]
theorem ok_X2_hasRoom : am_ck 29 bk_X2_hasRoom ck_X2_hasRoom = true := am_ckD (by decide +kernel)
theorem ml_X2_hasRoom : am_ml 29 = 1 := by decide +kernel
theorem pn_X2_hasRoom : plainName (am_y 29).cls = true := by decide +kernel
/-- PaceBorder$Ground.add(II)V: number 30, loop heads [] -/
noncomputable def bl_X2_add_0 : am_B := (0, [(.aload_n 0, []), (.invokevirtual 22, [29, 0, 2, 1]), (.ifCond .eq 33, [2, 1])], none)
noncomputable def bl_X2_add_1 : am_B := (7, [(.aload_n 0, []), (.getfield 9, [2, 1, 2]), (.aload_n 0, []), (.getfield 18, [2, 0, 0]), (.iload_n 1, []), (.iastore, []), (.aload_n 0, []), (.getfield 15, [2, 2, 2]), (.aload_n 0, []), (.getfield 18, [2, 0, 0]), (.iload_n 2, []), (.iastore, []), (.aload_n 0, []), (.dup, []), (.getfield 18, [2, 0, 0]), (.iconst 1, []), (.iadd, []), (.putfield 18, [2, 0, 0, 0])], some 2)
noncomputable def bl_X2_add_2 : am_B := (37, [(.return_, [])], none)
noncomputable def bk_X2_add : List am_B := [bl_X2_add_0, bl_X2_add_1, bl_X2_add_2]
noncomputable def ck_X2_add : List (List (Nat × List Nat)) := [[(1, []), (3, [511, 504, 505, 85]), (3, [])],
  [(1, []), (3, [151]), (1, []), (3, [143]), (1, []), (1, []), (1, []), (3, [152]), (1, []), (3, [143]), (1, []), (1, []), (1, []), (1, []), (3, [143]), (1, []), (1, []), (3, [143])],
  [(1, [])]]
theorem ok_X2_add : am_ck 30 bk_X2_add ck_X2_add = true := am_ckD (by decide +kernel)
theorem ml_X2_add : am_ml 30 = 3 := by decide +kernel
theorem pn_X2_add : plainName (am_y 30).cls = true := by decide +kernel
/-- PaceBorder$Ground.takeFrom(LPaceBorder$Ground;)V: number 31, loop heads [] -/
noncomputable def bl_X2_takeFrom_0 : am_B := (0, [(.aload_n 0, []), (.aload_n 1, []), (.getfield 18, [2, 0, 0]), (.putfield 18, [2, 0, 0, 0]), (.aload_n 1, []), (.getfield 9, [2, 1, 2]), (.iconst 0, []), (.aload_n 0, []), (.getfield 9, [2, 1, 2]), (.iconst 0, []), (.bipush 12, []), (.invokestatic 26, [1000000]), (.aload_n 1, []), (.getfield 15, [2, 2, 2]), (.iconst 0, []), (.aload_n 0, []), (.getfield 15, [2, 2, 2]), (.iconst 0, []), (.bipush 12, []), (.invokestatic 26, [1000000]), (.return_, [])], none)
noncomputable def bk_X2_takeFrom : List am_B := [bl_X2_takeFrom_0]
noncomputable def ck_X2_takeFrom : List (List (Nat × List Nat)) := [[(1, []), (1, []), (3, [143]), (3, [143]), (1, []), (3, [151]), (1, []), (1, []), (3, [151]), (1, []), (2, []), (3, [520, 447, 446, 92]), (1, []), (3, [152]), (1, []), (1, []), (3, [152]), (1, []), (2, []), (3, [520, 447, 446, 92]), (1, [])]]
theorem ok_X2_takeFrom : am_ck 31 bk_X2_takeFrom ck_X2_takeFrom = true := am_ckD (by decide +kernel)
theorem ml_X2_takeFrom : am_ml 31 = 2 := by decide +kernel
theorem pn_X2_takeFrom : plainName (am_y 31).cls = true := by decide +kernel
/-- PaceBorder$Ground.setKind(II)V: number 32, loop heads [] -/
noncomputable def bl_X2_setKind_0 : am_B := (0, [(.aload_n 0, []), (.iload_n 1, []), (.invokevirtual 32, [33, 1, 2, 1]), (.ifCond .eq 10, [2, 1])], none)
noncomputable def bl_X2_setKind_1 : am_B := (8, [(.aload_n 0, []), (.getfield 9, [2, 1, 2]), (.iload_n 1, []), (.iload_n 2, []), (.iastore, [])], some 2)
noncomputable def bl_X2_setKind_2 : am_B := (15, [(.return_, [])], none)
noncomputable def bk_X2_setKind : List am_B := [bl_X2_setKind_0, bl_X2_setKind_1, bl_X2_setKind_2]
noncomputable def ck_X2_setKind : List (List (Nat × List Nat)) := [[(1, []), (1, []), (3, [541, 530, 531, 85]), (3, [])],
  [(1, []), (3, [151]), (1, []), (1, []), (1, [])],
  [(1, [])]]
theorem ok_X2_setKind : am_ck 32 bk_X2_setKind ck_X2_setKind = true := am_ckD (by decide +kernel)
theorem ml_X2_setKind : am_ml 32 = 3 := by decide +kernel
theorem pn_X2_setKind : plainName (am_y 32).cls = true := by decide +kernel
/-- PaceBorder$Ground.has(I)Z: number 33, loop heads [] -/
noncomputable def bl_X2_has_0 : am_B := (0, [(.iload_n 1, []), (.ifCond .lt 15, [3, 1])], none)
noncomputable def bl_X2_has_1 : am_B := (4, [(.iload_n 1, []), (.aload_n 0, []), (.getfield 18, [2, 0, 0]), (.if_icmp .ge 7, [3, 2])], none)
noncomputable def bl_X2_has_2 : am_B := (12, [(.iconst 1, []), (.goto 4, [4])], none)
noncomputable def bl_X2_has_3 : am_B := (16, [(.iconst 0, [])], some 4)
noncomputable def bl_X2_has_4 : am_B := (17, [(.ireturn, [1])], none)
noncomputable def bk_X2_has : List am_B := [bl_X2_has_0, bl_X2_has_1, bl_X2_has_2, bl_X2_has_3, bl_X2_has_4]
noncomputable def ck_X2_has : List (List (Nat × List Nat)) := [[(1, []), (3, [])],
  [(1, []), (1, []), (3, [143]), (3, [])],
  [(1, []), (3, [])],
  [(1, [])],
  [(1, [])]]
theorem ok_X2_has : am_ck 33 bk_X2_has ck_X2_has = true := am_ckD (by decide +kernel)
theorem ml_X2_has : am_ml 33 = 2 := by decide +kernel
theorem pn_X2_has : plainName (am_y 33).cls = true := by decide +kernel
/-- PaceBorder$Ground.isPlace(I)Z: number 34, loop heads [] -/
noncomputable def bl_X2_isPlace_0 : am_B := (0, [(.iload_n 1, []), (.ifCond .lt 15, [3, 1])], none)
noncomputable def bl_X2_isPlace_1 : am_B := (4, [(.iload_n 1, []), (.aload_n 0, []), (.getfield 18, [2, 0, 0]), (.if_icmp .gt 7, [3, 2])], none)
noncomputable def bl_X2_isPlace_2 : am_B := (12, [(.iconst 1, []), (.goto 4, [4])], none)
noncomputable def bl_X2_isPlace_3 : am_B := (16, [(.iconst 0, [])], some 4)
noncomputable def bl_X2_isPlace_4 : am_B := (17, [(.ireturn, [1])], none)
noncomputable def bk_X2_isPlace : List am_B := [bl_X2_isPlace_0, bl_X2_isPlace_1, bl_X2_isPlace_2, bl_X2_isPlace_3, bl_X2_isPlace_4]
noncomputable def ck_X2_isPlace : List (List (Nat × List Nat)) := [[(1, []), (3, [])],
  [(1, []), (1, []), (3, [143]), (3, [])],
  [(1, []), (3, [])],
  [(1, [])],
  [(1, [])]]
theorem ok_X2_isPlace : am_ck 34 bk_X2_isPlace ck_X2_isPlace = true := am_ckD (by decide +kernel)
theorem ml_X2_isPlace : am_ml 34 = 2 := by decide +kernel
theorem pn_X2_isPlace : plainName (am_y 34).cls = true := by decide +kernel
/-- PaceBorder$Ground.kindOf(I)I: number 35, loop heads [] -/
noncomputable def bl_X2_kindOf_0 : am_B := (0, [(.aload_n 0, []), (.iload_n 1, []), (.invokevirtual 32, [33, 1, 2, 1]), (.ifCond .eq 12, [2, 1])], none)
noncomputable def bl_X2_kindOf_1 : am_B := (8, [(.aload_n 0, []), (.getfield 9, [2, 1, 2]), (.iload_n 1, []), (.iaload, []), (.goto 4, [3])], none)
noncomputable def bl_X2_kindOf_2 : am_B := (17, [(.iconst 0, [])], some 3)
noncomputable def bl_X2_kindOf_3 : am_B := (18, [(.ireturn, [0])], none)
noncomputable def bk_X2_kindOf : List am_B := [bl_X2_kindOf_0, bl_X2_kindOf_1, bl_X2_kindOf_2, bl_X2_kindOf_3]
noncomputable def ck_X2_kindOf : List (List (Nat × List Nat)) := [[(1, []), (1, []), (3, [541, 530, 531, 85]), (3, [])],
  [(1, []), (3, [151]), (1, []), (1, []), (3, [])],
  [(1, [])],
  [(1, [])]]
theorem ok_X2_kindOf : am_ck 35 bk_X2_kindOf ck_X2_kindOf = true := am_ckD (by decide +kernel)
theorem ml_X2_kindOf : am_ml 35 = 2 := by decide +kernel
theorem pn_X2_kindOf : plainName (am_y 35).cls = true := by decide +kernel
/-- PaceBorder$Ground.dueOf(I)I: number 36, loop heads [] -/
noncomputable def bl_X2_dueOf_0 : am_B := (0, [(.aload_n 0, []), (.iload_n 1, []), (.invokevirtual 32, [33, 1, 2, 1]), (.ifCond .eq 12, [2, 1])], none)
noncomputable def bl_X2_dueOf_1 : am_B := (8, [(.aload_n 0, []), (.getfield 15, [2, 2, 2]), (.iload_n 1, []), (.iaload, []), (.goto 4, [3])], none)
noncomputable def bl_X2_dueOf_2 : am_B := (17, [(.iconst 0, [])], some 3)
noncomputable def bl_X2_dueOf_3 : am_B := (18, [(.ireturn, [0])], none)
noncomputable def bk_X2_dueOf : List am_B := [bl_X2_dueOf_0, bl_X2_dueOf_1, bl_X2_dueOf_2, bl_X2_dueOf_3]
noncomputable def ck_X2_dueOf : List (List (Nat × List Nat)) := [[(1, []), (1, []), (3, [541, 530, 531, 85]), (3, [])],
  [(1, []), (3, [152]), (1, []), (1, []), (3, [])],
  [(1, [])],
  [(1, [])]]
theorem ok_X2_dueOf : am_ck 36 bk_X2_dueOf ck_X2_dueOf = true := am_ckD (by decide +kernel)
theorem ml_X2_dueOf : am_ml 36 = 2 := by decide +kernel
theorem pn_X2_dueOf : plainName (am_y 36).cls = true := by decide +kernel
/-- PaceBorder$Ground.isOf(II)Z: number 37, loop heads [] -/
noncomputable def bl_X2_isOf_0 : am_B := (0, [(.aload_n 0, []), (.iload_n 1, []), (.invokevirtual 36, [35, 1, 2, 1]), (.istore_n 3, []), (.iload_n 3, []), (.iload_n 2, []), (.if_icmp .eq 27, [6, 1])], none)
noncomputable def bl_X2_isOf_1 : am_B := (11, [(.iload_n 2, []), (.ifCond .eq 23, [6, 2])], none)
noncomputable def bl_X2_isOf_2 : am_B := (15, [(.iload_n 3, []), (.iconst 4, []), (.if_icmp .ne 8, [4, 3])], none)
noncomputable def bl_X2_isOf_3 : am_B := (20, [(.iload_n 2, []), (.iconst 1, []), (.if_icmp .eq 13, [6, 4])], none)
noncomputable def bl_X2_isOf_4 : am_B := (25, [(.iload_n 3, []), (.iconst 5, []), (.if_icmp .ne 12, [7, 5])], none)
noncomputable def bl_X2_isOf_5 : am_B := (30, [(.iload_n 2, []), (.iconst 2, []), (.if_icmp .ne 7, [7, 6])], none)
noncomputable def bl_X2_isOf_6 : am_B := (35, [(.iconst 1, []), (.goto 4, [8])], none)
noncomputable def bl_X2_isOf_7 : am_B := (39, [(.iconst 0, [])], some 8)
noncomputable def bl_X2_isOf_8 : am_B := (40, [(.ireturn, [1])], none)
noncomputable def bk_X2_isOf : List am_B := [bl_X2_isOf_0, bl_X2_isOf_1, bl_X2_isOf_2, bl_X2_isOf_3, bl_X2_isOf_4, bl_X2_isOf_5, bl_X2_isOf_6, bl_X2_isOf_7, bl_X2_isOf_8]
noncomputable def ck_X2_isOf : List (List (Nat × List Nat)) := [[(1, []), (1, []), (3, [573, 538, 539, 85]), (1, []), (1, []), (1, []), (3, [])],
  [(1, []), (3, [])],
  [(1, []), (1, []), (3, [])],
  [(1, []), (1, []), (3, [])],
  [(1, []), (1, []), (3, [])],
  [(1, []), (1, []), (3, [])],
  [(1, []), (3, [])],
  [(1, [])],
  [(1, [])]]
theorem ok_X2_isOf : am_ck 37 bk_X2_isOf ck_X2_isOf = true := am_ckD (by decide +kernel)
theorem ml_X2_isOf : am_ml 37 = 4 := by decide +kernel
theorem pn_X2_isOf : plainName (am_y 37).cls = true := by decide +kernel
/-- PaceBorder$Ground.howManyAre(I)I: number 38, loop heads [1] -/
noncomputable def bl_X2_howManyAre_0 : am_B := (0, [(.iconst 0, []), (.istore_n 2, []), (.iconst 0, []), (.istore_n 3, [])], some 1001)
noncomputable def bl_X2_howManyAre_1 : am_B := (4, [(.iload_n 3, []), (.aload_n 0, []), (.getfield 18, [2, 0, 0]), (.if_icmp .ge 21, [1005, 2])], none)
noncomputable def bl_X2_howManyAre_2 : am_B := (12, [(.aload_n 0, []), (.iload_n 3, []), (.iload_n 1, []), (.invokevirtual 40, [37, 2, 2, 1]), (.ifCond .eq 6, [4, 3])], none)
noncomputable def bl_X2_howManyAre_3 : am_B := (21, [(.iinc 2 1, [])], some 4)
noncomputable def bl_X2_howManyAre_4 : am_B := (24, [(.iinc 3 1, []), (.goto (-23), [1001])], none)
noncomputable def bl_X2_howManyAre_5 : am_B := (30, [(.iload_n 2, []), (.ireturn, [0])], none)
noncomputable def bk_X2_howManyAre : List am_B := [bl_X2_howManyAre_0, bl_X2_howManyAre_1, bl_X2_howManyAre_2, bl_X2_howManyAre_3, bl_X2_howManyAre_4, bl_X2_howManyAre_5]
noncomputable def ck_X2_howManyAre : List (List (Nat × List Nat)) := [[(1, []), (1, []), (1, []), (1, [])],
  [(1, []), (1, []), (3, [143]), (3, [])],
  [(1, []), (1, []), (1, []), (3, [1031, 570, 571, 85]), (3, [])],
  [(3, [])],
  [(3, []), (3, [])],
  [(1, []), (1, [])]]
theorem ok_X2_howManyAre : am_ck 38 bk_X2_howManyAre ck_X2_howManyAre = true := am_ckD (by decide +kernel)
theorem ml_X2_howManyAre : am_ml 38 = 4 := by decide +kernel
theorem pn_X2_howManyAre : plainName (am_y 38).cls = true := by decide +kernel
/-- PaceBorder$Ground.crownOf(II)I: number 39, loop heads [] -/
noncomputable def bl_X2_crownOf_0 : am_B := (0, [(.iload_n 0, []), (.iload_n 1, []), (.if_icmp .ge 7, [2, 1])], none)
noncomputable def bl_X2_crownOf_1 : am_B := (5, [(.iconst 0, []), (.goto 4, [3])], none)
noncomputable def bl_X2_crownOf_2 : am_B := (9, [(.iconst 1, [])], some 3)
noncomputable def bl_X2_crownOf_3 : am_B := (10, [(.ireturn, [0])], none)
noncomputable def bk_X2_crownOf : List am_B := [bl_X2_crownOf_0, bl_X2_crownOf_1, bl_X2_crownOf_2, bl_X2_crownOf_3]
noncomputable def ck_X2_crownOf : List (List (Nat × List Nat)) := [[(1, []), (1, []), (3, [])],
  [(1, []), (3, [])],
  [(1, [])],
  [(1, [])]]
theorem ok_X2_crownOf : am_ck 39 bk_X2_crownOf ck_X2_crownOf = true := am_ckD (by decide +kernel)
theorem ml_X2_crownOf : am_ml 39 = 2 := by decide +kernel
theorem pn_X2_crownOf : plainName (am_y 39).cls = true := by decide +kernel
/-- PaceBorder$Ground.touches(II)Z: number 40, loop heads [] -/
noncomputable def bl_X2_touches_0 : am_B := (0, [(.iload_n 1, []), (.iload_n 0, []), (.if_icmp .eq 10, [2, 1])], none)
noncomputable def bl_X2_touches_1 : am_B := (5, [(.iload_n 1, []), (.iload_n 0, []), (.iconst 1, []), (.iadd, []), (.if_icmp .ne 7, [3, 2])], none)
noncomputable def bl_X2_touches_2 : am_B := (12, [(.iconst 1, []), (.goto 4, [4])], none)
noncomputable def bl_X2_touches_3 : am_B := (16, [(.iconst 0, [])], some 4)
noncomputable def bl_X2_touches_4 : am_B := (17, [(.ireturn, [1])], none)
noncomputable def bk_X2_touches : List am_B := [bl_X2_touches_0, bl_X2_touches_1, bl_X2_touches_2, bl_X2_touches_3, bl_X2_touches_4]
noncomputable def ck_X2_touches : List (List (Nat × List Nat)) := [[(1, []), (1, []), (3, [])],
  [(1, []), (1, []), (1, []), (1, []), (3, [])],
  [(1, []), (3, [])],
  [(1, [])],
  [(1, [])]]
theorem ok_X2_touches : am_ck 40 bk_X2_touches ck_X2_touches = true := am_ckD (by decide +kernel)
theorem ml_X2_touches : am_ml 40 = 2 := by decide +kernel
theorem pn_X2_touches : plainName (am_y 40).cls = true := by decide +kernel
/-- PaceBorder$Ground.rudeness(III)I: number 41, loop heads [] -/
noncomputable def bl_X2_rudeness_0 : am_B := (0, [(.iload_n 2, []), (.ifCond .ne 5, [2, 1])], none)
noncomputable def bl_X2_rudeness_1 : am_B := (4, [(.iconst 0, []), (.ireturn, [0])], none)
noncomputable def bl_X2_rudeness_2 : am_B := (6, [(.iload_n 2, []), (.ifCond .ge 9, [4, 3])], none)
noncomputable def bl_X2_rudeness_3 : am_B := (10, [(.iload_n 1, []), (.iconst 1, []), (.isub, []), (.goto 4, [5])], none)
noncomputable def bl_X2_rudeness_4 : am_B := (16, [(.iload_n 1, [])], some 5)
noncomputable def bl_X2_rudeness_5 : am_B := (17, [(.istore 4, []), (.iload 4, []), (.ifCond .lt 12, [7, 6])], none)
noncomputable def bl_X2_rudeness_6 : am_B := (24, [(.iload 4, []), (.aload_n 0, []), (.getfield 18, [2, 0, 0]), (.if_icmp .lt 5, [8, 7])], none)
noncomputable def bl_X2_rudeness_7 : am_B := (33, [(.iconst (-1), []), (.ireturn, [0])], none)
noncomputable def bl_X2_rudeness_8 : am_B := (35, [(.aload_n 0, []), (.getfield 9, [2, 1, 2]), (.iload 4, []), (.iaload, []), (.istore 5, []), (.iload 5, []), (.iconst 3, []), (.if_icmp .ne 11, [11, 9])], none)
noncomputable def bl_X2_rudeness_9 : am_B := (50, [(.iload_n 3, []), (.iconst 2, []), (.irem, []), (.ifCond .eq 5, [11, 10])], none)
noncomputable def bl_X2_rudeness_10 : am_B := (56, [(.iconst (-1), []), (.ireturn, [0])], none)
noncomputable def bl_X2_rudeness_11 : am_B := (58, [(.iload 5, []), (.iconst 2, []), (.if_icmp .eq 9, [13, 12])], none)
noncomputable def bl_X2_rudeness_12 : am_B := (64, [(.iload 5, []), (.iconst 5, []), (.if_icmp .ne 7, [14, 13])], none)
noncomputable def bl_X2_rudeness_13 : am_B := (70, [(.iconst 2, []), (.goto 4, [15])], none)
noncomputable def bl_X2_rudeness_14 : am_B := (74, [(.iconst 1, [])], some 15)
noncomputable def bl_X2_rudeness_15 : am_B := (75, [(.ireturn, [0])], none)
noncomputable def bk_X2_rudeness : List am_B := [bl_X2_rudeness_0, bl_X2_rudeness_1, bl_X2_rudeness_2, bl_X2_rudeness_3, bl_X2_rudeness_4, bl_X2_rudeness_5, bl_X2_rudeness_6, bl_X2_rudeness_7, bl_X2_rudeness_8, bl_X2_rudeness_9, bl_X2_rudeness_10, bl_X2_rudeness_11, bl_X2_rudeness_12, bl_X2_rudeness_13, bl_X2_rudeness_14, bl_X2_rudeness_15]
noncomputable def ck_X2_rudeness : List (List (Nat × List Nat)) := [[(1, []), (3, [])],
  [(1, []), (1, [])],
  [(1, []), (3, [])],
  [(1, []), (1, []), (1, []), (3, [])],
  [(1, [])],
  [(2, []), (2, []), (3, [])],
  [(2, []), (1, []), (3, [143]), (3, [])],
  [(1, []), (1, [])],
  [(1, []), (3, [151]), (2, []), (1, []), (2, []), (2, []), (1, []), (3, [])],
  [(1, []), (1, []), (1, []), (3, [])],
  [(1, []), (1, [])],
  [(2, []), (1, []), (3, [])],
  [(2, []), (1, []), (3, [])],
  [(1, []), (3, [])],
  [(1, [])],
  [(1, [])]]
theorem ok_X2_rudeness : am_ck 41 bk_X2_rudeness ck_X2_rudeness = true := am_ckD (by decide +kernel)
theorem ml_X2_rudeness : am_ml 41 = 6 := by decide +kernel
theorem pn_X2_rudeness : plainName (am_y 41).cls = true := by decide +kernel
/-- PaceBorder$Ground.borderAfter(IIII)I: number 42, loop heads [] -/
noncomputable def bl_X2_borderAfter_0 : am_B := (0, [(.iload 4, []), (.iload_n 3, []), (.invokestatic 44, [272, 2, 0, 1]), (.istore 5, []), (.aload_n 0, []), (.iload_n 1, []), (.iload 5, []), (.iload_n 2, []), (.invokevirtual 50, [41, 3, 2, 1]), (.istore 6, []), (.iload 6, []), (.iconst (-1), []), (.if_icmp .eq 15, [2, 1])], none)
noncomputable def bl_X2_borderAfter_1 : am_B := (24, [(.iload_n 3, []), (.iload 4, []), (.isub, []), (.invokestatic 54, [2, 0]), (.iload 6, []), (.if_icmp .ge 7, [3, 2])], none)
noncomputable def bl_X2_borderAfter_2 : am_B := (36, [(.iconst 1, []), (.goto 4, [4])], none)
noncomputable def bl_X2_borderAfter_3 : am_B := (40, [(.iconst 0, [])], some 4)
noncomputable def bl_X2_borderAfter_4 : am_B := (41, [(.istore 7, []), (.iload 7, []), (.ifCond .eq 7, [6, 5])], none)
noncomputable def bl_X2_borderAfter_5 : am_B := (48, [(.iload_n 1, []), (.goto 7, [7])], none)
noncomputable def bl_X2_borderAfter_6 : am_B := (52, [(.iload_n 1, []), (.iload 5, []), (.iadd, [])], some 7)
noncomputable def bl_X2_borderAfter_7 : am_B := (56, [(.ireturn, [0])], none)
noncomputable def bk_X2_borderAfter : List am_B := [bl_X2_borderAfter_0, bl_X2_borderAfter_1, bl_X2_borderAfter_2, bl_X2_borderAfter_3, bl_X2_borderAfter_4, bl_X2_borderAfter_5, bl_X2_borderAfter_6, bl_X2_borderAfter_7]
noncomputable def ck_X2_borderAfter : List (List (Nat × List Nat)) := [[(2, []), (1, []), (3, [619, 620, 93]), (2, []), (1, []), (1, []), (2, []), (1, []), (3, [622, 623, 624, 85]), (2, []), (2, []), (1, []), (3, [])],
  [(1, []), (2, []), (1, []), (3, [626, 627, 82, 628]), (2, []), (3, [])],
  [(1, []), (3, [])],
  [(1, [])],
  [(2, []), (2, []), (3, [])],
  [(1, []), (3, [])],
  [(1, []), (2, []), (1, [])],
  [(1, [])]]
theorem ok_X2_borderAfter : am_ck 42 bk_X2_borderAfter ck_X2_borderAfter = true := am_ckD (by decide +kernel)
theorem ml_X2_borderAfter : am_ml 42 = 8 := by decide +kernel
theorem pn_X2_borderAfter : plainName (am_y 42).cls = true := by decide +kernel
/-- PaceBorder$Ground.dueTo(IIII)I: number 43, loop heads [] -/
noncomputable def bl_X2_dueTo_0 : am_B := (0, [(.aload_n 0, []), (.iload_n 2, []), (.invokevirtual 36, [35, 1, 2, 1]), (.istore 5, []), (.aload_n 0, []), (.iload_n 2, []), (.invokevirtual 59, [36, 1, 2, 1]), (.iload 4, []), (.imul, []), (.istore 6, []), (.iload 5, []), (.iconst 5, []), (.if_icmp .ne 20, [5, 1])], none)
noncomputable def bl_X2_dueTo_1 : am_B := (23, [(.iload_n 2, []), (.iload_n 3, []), (.invokestatic 62, [40, 2, 0, 1]), (.ifCond .eq 10, [3, 2])], none)
noncomputable def bl_X2_dueTo_2 : am_B := (31, [(.iload 6, []), (.iconst 2, []), (.idiv, []), (.goto 4, [4])], none)
noncomputable def bl_X2_dueTo_3 : am_B := (38, [(.iconst 0, [])], some 4)
noncomputable def bl_X2_dueTo_4 : am_B := (39, [(.ireturn, [0])], none)
noncomputable def bl_X2_dueTo_5 : am_B := (40, [(.iload_n 2, []), (.iload_n 3, []), (.invokestatic 65, [39, 2, 0, 1]), (.iload_n 1, []), (.if_icmp .eq 5, [7, 6])], none)
noncomputable def bl_X2_dueTo_6 : am_B := (49, [(.iconst 0, []), (.ireturn, [0])], none)
noncomputable def bl_X2_dueTo_7 : am_B := (51, [(.iload 5, []), (.iconst 4, []), (.if_icmp .ne 10, [9, 8])], none)
noncomputable def bl_X2_dueTo_8 : am_B := (57, [(.iconst 2, []), (.iload 6, []), (.imul, []), (.goto 15, [12])], none)
noncomputable def bl_X2_dueTo_9 : am_B := (64, [(.iload 5, []), (.iconst 1, []), (.if_icmp .ne 8, [11, 10])], none)
noncomputable def bl_X2_dueTo_10 : am_B := (70, [(.iload 6, []), (.goto 4, [12])], none)
noncomputable def bl_X2_dueTo_11 : am_B := (75, [(.iconst 0, [])], some 12)
noncomputable def bl_X2_dueTo_12 : am_B := (76, [(.ireturn, [0])], none)
noncomputable def bk_X2_dueTo : List am_B := [bl_X2_dueTo_0, bl_X2_dueTo_1, bl_X2_dueTo_2, bl_X2_dueTo_3, bl_X2_dueTo_4, bl_X2_dueTo_5, bl_X2_dueTo_6, bl_X2_dueTo_7, bl_X2_dueTo_8, bl_X2_dueTo_9, bl_X2_dueTo_10, bl_X2_dueTo_11, bl_X2_dueTo_12]
noncomputable def ck_X2_dueTo : List (List (Nat × List Nat)) := [[(1, []), (1, []), (3, [573, 538, 539, 85]), (2, []), (1, []), (1, []), (3, [585, 543, 544, 85]), (2, []), (1, []), (2, []), (2, []), (1, []), (3, [])],
  [(1, []), (1, []), (3, [586, 575, 85]), (3, [])],
  [(2, []), (1, []), (1, []), (3, [])],
  [(1, [])],
  [(1, [])],
  [(1, []), (1, []), (3, [587, 547, 85]), (1, []), (3, [])],
  [(1, []), (1, [])],
  [(2, []), (1, []), (3, [])],
  [(1, []), (2, []), (1, []), (3, [])],
  [(2, []), (1, []), (3, [])],
  [(2, []), (3, [])],
  [(1, [])],
  [(1, [])]]
theorem ok_X2_dueTo : am_ck 43 bk_X2_dueTo ck_X2_dueTo = true := am_ckD (by decide +kernel)
theorem ml_X2_dueTo : am_ml 43 = 7 := by decide +kernel
theorem pn_X2_dueTo : plainName (am_y 43).cls = true := by decide +kernel
end
section
/-- PaceBorder$Days.<init>()V: number 11, loop heads [] -/
noncomputable def bl_X1_init_0 : am_B := (0, [(.aload_n 0, []), (.invokespecial 3, [1000000]), (.aload_n 0, []), (.bipush 40, []), (.newarray .int, [10]), (.putfield 9, [1, 4, 2, 1]), (.aload_n 0, []), (.bipush 40, []), (.newarray .int, [10]), (.putfield 15, [1, 5, 2, 1]), (.aload_n 0, []), (.bipush 41, []), (.newarray .int, [10]), (.putfield 18, [1, 6, 2, 1]), (.aload_n 0, []), (.bipush 96, []), (.newarray .int, [10]), (.putfield 21, [1, 7, 2, 1]), (.return_, [])], none)
noncomputable def bk_X1_init : List am_B := [bl_X1_init_0]
noncomputable def ck_X1_init : List (List (Nat × List Nat)) := [[(1, []), (3, [193, 100, 101]), (1, []), (2, []), (2, []), (3, [208]), (1, []), (2, []), (2, []), (3, [209]), (1, []), (2, []), (2, []), (3, [210]), (1, []), (2, []), (2, []), (3, [211]), (1, [])]]
theorem ok_X1_init : am_ck 11 bk_X1_init ck_X1_init = true := am_ckD (by decide +kernel)
theorem ml_X1_init : am_ml 11 = 1 := by decide +kernel
theorem pn_X1_init : plainName (am_y 11).cls = true := by decide +kernel
/-- PaceBorder$Days.isTaxDay(I)Z: number 12, loop heads [] -/
noncomputable def bl_X1_isTaxDay_0 : am_B := (0, [(.iload_n 0, []), (.ifCond .lt 22, [4, 1])], none)
noncomputable def bl_X1_isTaxDay_1 : am_B := (4, [(.iload_n 0, []), (.bipush 40, []), (.if_icmp .ge 16, [4, 2])], none)
noncomputable def bl_X1_isTaxDay_2 : am_B := (10, [(.iload_n 0, []), (.bipush 10, []), (.irem, []), (.bipush 9, []), (.if_icmp .ne 7, [4, 3])], none)
noncomputable def bl_X1_isTaxDay_3 : am_B := (19, [(.iconst 1, []), (.goto 4, [5])], none)
noncomputable def bl_X1_isTaxDay_4 : am_B := (23, [(.iconst 0, [])], some 5)
noncomputable def bl_X1_isTaxDay_5 : am_B := (24, [(.ireturn, [1])], none)
noncomputable def bk_X1_isTaxDay : List am_B := [bl_X1_isTaxDay_0, bl_X1_isTaxDay_1, bl_X1_isTaxDay_2, bl_X1_isTaxDay_3, bl_X1_isTaxDay_4, bl_X1_isTaxDay_5]
noncomputable def ck_X1_isTaxDay : List (List (Nat × List Nat)) := [[(1, []), (3, [])],
  [(1, []), (2, []), (3, [])],
  [(1, []), (2, []), (1, []), (2, []), (3, [])],
  [(1, []), (3, [])],
  [(1, [])],
  [(1, [])]]
theorem ok_X1_isTaxDay : am_ck 12 bk_X1_isTaxDay ck_X1_isTaxDay = true := am_ckD (by decide +kernel)
theorem ml_X1_isTaxDay : am_ml 12 = 1 := by decide +kernel
theorem pn_X1_isTaxDay : plainName (am_y 12).cls = true := by decide +kernel
/-- PaceBorder$Days.begin(III)V: number 13, loop heads [] -/
noncomputable def bl_X1_begin_0 : am_B := (0, [(.aload_n 0, []), (.iconst 0, []), (.putfield 24, [1, 0, 0, 0]), (.aload_n 0, []), (.iload_n 1, []), (.putfield 28, [1, 1, 0, 0]), (.aload_n 0, []), (.iload_n 2, []), (.putfield 31, [1, 2, 0, 0]), (.aload_n 0, []), (.iload_n 3, []), (.putfield 34, [1, 3, 0, 0]), (.aload_n 0, []), (.getfield 18, [1, 6, 2]), (.iconst 0, []), (.iload_n 1, []), (.iastore, []), (.return_, [])], none)
noncomputable def bk_X1_begin : List am_B := [bl_X1_begin_0]
noncomputable def ck_X1_begin : List (List (Nat × List Nat)) := [[(1, []), (1, []), (3, [196]), (1, []), (1, []), (3, [201]), (1, []), (1, []), (3, [206]), (1, []), (1, []), (3, [207]), (1, []), (3, [210]), (1, []), (1, []), (1, []), (1, [])]]
theorem ok_X1_begin : am_ck 13 bk_X1_begin ck_X1_begin = true := am_ckD (by decide +kernel)
theorem ml_X1_begin : am_ml 13 = 4 := by decide +kernel
theorem pn_X1_begin : plainName (am_y 13).cls = true := by decide +kernel
/-- PaceBorder$Days.carry(LPaceBorder$Days;LPaceBorder$Days;)V: number 14, loop heads [] -/
noncomputable def bl_X1_carry_0 : am_B := (0, [(.aload_n 0, []), (.ifnull 7, [2, 1])], none)
noncomputable def bl_X1_carry_1 : am_B := (4, [(.aload_n 1, []), (.ifnonnull 4, [3, 2])], none)
noncomputable def bl_X1_carry_2 : am_B := (8, [(.return_, [])], none)
noncomputable def bl_X1_carry_3 : am_B := (9, [(.aload_n 1, []), (.aload_n 0, []), (.getfield 24, [1, 0, 0]), (.putfield 24, [1, 0, 0, 0]), (.aload_n 1, []), (.aload_n 0, []), (.getfield 28, [1, 1, 0]), (.putfield 28, [1, 1, 0, 0]), (.aload_n 1, []), (.aload_n 0, []), (.getfield 31, [1, 2, 0]), (.putfield 31, [1, 2, 0, 0]), (.aload_n 1, []), (.aload_n 0, []), (.getfield 34, [1, 3, 0]), (.putfield 34, [1, 3, 0, 0]), (.aload_n 0, []), (.getfield 9, [1, 4, 2]), (.iconst 0, []), (.aload_n 1, []), (.getfield 9, [1, 4, 2]), (.iconst 0, []), (.bipush 40, []), (.invokestatic 37, [1000000]), (.aload_n 0, []), (.getfield 15, [1, 5, 2]), (.iconst 0, []), (.aload_n 1, []), (.getfield 15, [1, 5, 2]), (.iconst 0, []), (.bipush 40, []), (.invokestatic 37, [1000000]), (.aload_n 0, []), (.getfield 18, [1, 6, 2]), (.iconst 0, []), (.aload_n 1, []), (.getfield 18, [1, 6, 2]), (.iconst 0, []), (.bipush 41, []), (.invokestatic 37, [1000000]), (.aload_n 0, []), (.getfield 21, [1, 7, 2]), (.iconst 0, []), (.aload_n 1, []), (.getfield 21, [1, 7, 2]), (.iconst 0, []), (.bipush 96, []), (.invokestatic 37, [1000000]), (.return_, [])], none)
noncomputable def bk_X1_carry : List am_B := [bl_X1_carry_0, bl_X1_carry_1, bl_X1_carry_2, bl_X1_carry_3]
noncomputable def ck_X1_carry : List (List (Nat × List Nat)) := [[(1, []), (3, [])],
  [(1, []), (3, [])],
  [(1, [])],
  [(1, []), (1, []), (3, [196]), (3, [196]), (1, []), (1, []), (3, [201]), (3, [201]), (1, []), (1, []), (3, [206]), (3, [206]), (1, []), (1, []), (3, [207]), (3, [207]), (1, []), (3, [208]), (1, []), (1, []), (3, [208]), (1, []), (2, []), (3, [665, 447, 446, 92]), (1, []), (3, [209]), (1, []), (1, []), (3, [209]), (1, []), (2, []), (3, [665, 447, 446, 92]), (1, []), (3, [210]), (1, []), (1, []), (3, [210]), (1, []), (2, []), (3, [665, 447, 446, 92]), (1, []), (3, [211]), (1, []), (1, []), (3, [211]), (1, []), (2, []), (3, [665, 447, 446, 92]), (1, [])]]
theorem ok_X1_carry : am_ck 14 bk_X1_carry ck_X1_carry = true := am_ckD (by decide +kernel)
theorem ml_X1_carry : am_ml 14 = 2 := by decide +kernel
theorem pn_X1_carry : plainName (am_y 14).cls = true := by decide +kernel
/-- PaceBorder$Days.rateOf(I)I: number 15, loop heads [] -/
noncomputable def bl_X1_rateOf_0 : am_B := (0, [(.iload_n 1, []), (.ifCond .ne 10, [2, 1])], none)
noncomputable def bl_X1_rateOf_1 : am_B := (4, [(.aload_n 0, []), (.getfield 31, [1, 2, 0]), (.goto 7, [3])], none)
noncomputable def bl_X1_rateOf_2 : am_B := (11, [(.aload_n 0, []), (.getfield 34, [1, 3, 0])], some 3)
noncomputable def bl_X1_rateOf_3 : am_B := (15, [(.ireturn, [0])], none)
noncomputable def bk_X1_rateOf : List am_B := [bl_X1_rateOf_0, bl_X1_rateOf_1, bl_X1_rateOf_2, bl_X1_rateOf_3]
noncomputable def ck_X1_rateOf : List (List (Nat × List Nat)) := [[(1, []), (3, [])],
  [(1, []), (3, [206]), (3, [])],
  [(1, []), (3, [207])],
  [(1, [])]]
theorem ok_X1_rateOf : am_ck 15 bk_X1_rateOf ck_X1_rateOf = true := am_ckD (by decide +kernel)
theorem ml_X1_rateOf : am_ml 15 = 2 := by decide +kernel
theorem pn_X1_rateOf : plainName (am_y 15).cls = true := by decide +kernel
/-- PaceBorder$Days.setRate(II)V: number 16, loop heads [] -/
noncomputable def bl_X1_setRate_0 : am_B := (0, [(.iload_n 1, []), (.ifCond .ne 11, [2, 1])], none)
noncomputable def bl_X1_setRate_1 : am_B := (4, [(.aload_n 0, []), (.iload_n 2, []), (.putfield 31, [1, 2, 0, 0]), (.goto 8, [3])], none)
noncomputable def bl_X1_setRate_2 : am_B := (12, [(.aload_n 0, []), (.iload_n 2, []), (.putfield 34, [1, 3, 0, 0])], some 3)
noncomputable def bl_X1_setRate_3 : am_B := (17, [(.return_, [])], none)
noncomputable def bk_X1_setRate : List am_B := [bl_X1_setRate_0, bl_X1_setRate_1, bl_X1_setRate_2, bl_X1_setRate_3]
noncomputable def ck_X1_setRate : List (List (Nat × List Nat)) := [[(1, []), (3, [])],
  [(1, []), (1, []), (3, [206]), (3, [])],
  [(1, []), (1, []), (3, [207])],
  [(1, [])]]
theorem ok_X1_setRate : am_ck 16 bk_X1_setRate ck_X1_setRate = true := am_ckD (by decide +kernel)
theorem ml_X1_setRate : am_ml 16 = 3 := by decide +kernel
theorem pn_X1_setRate : plainName (am_y 16).cls = true := by decide +kernel
/-- PaceBorder$Days.pass(LPaceBorder$Ground;II)V: number 17, loop heads [] -/
noncomputable def bl_X1_pass_0 : am_B := (0, [(.aload_n 0, []), (.getfield 24, [1, 0, 0]), (.ifCond .lt 12, [2, 1])], none)
noncomputable def bl_X1_pass_1 : am_B := (7, [(.aload_n 0, []), (.getfield 24, [1, 0, 0]), (.bipush 40, []), (.if_icmp .lt 4, [3, 2])], none)
noncomputable def bl_X1_pass_2 : am_B := (16, [(.return_, [])], none)
noncomputable def bl_X1_pass_3 : am_B := (17, [(.aload_n 0, []), (.getfield 9, [1, 4, 2]), (.aload_n 0, []), (.getfield 24, [1, 0, 0]), (.iload_n 2, []), (.iastore, []), (.aload_n 0, []), (.getfield 15, [1, 5, 2]), (.aload_n 0, []), (.getfield 24, [1, 0, 0]), (.iload_n 3, []), (.iastore, []), (.aload_n 0, []), (.aload_n 1, []), (.aload_n 0, []), (.getfield 28, [1, 1, 0]), (.aload_n 0, []), (.getfield 24, [1, 0, 0]), (.iload_n 2, []), (.iload_n 3, []), (.invokevirtual 43, [42, 4, 2, 1]), (.putfield 28, [1, 1, 0, 0]), (.aload_n 0, []), (.getfield 24, [1, 0, 0]), (.invokestatic 49, [12, 1, 0, 1]), (.ifCond .eq 8, [5, 4])], none)
noncomputable def bl_X1_pass_4 : am_B := (65, [(.aload_n 0, []), (.aload_n 1, []), (.invokevirtual 53, [18, 1, 1, 0])], some 5)
noncomputable def bl_X1_pass_5 : am_B := (70, [(.aload_n 0, []), (.dup, []), (.getfield 24, [1, 0, 0]), (.iconst 1, []), (.iadd, []), (.putfield 24, [1, 0, 0, 0]), (.aload_n 0, []), (.getfield 18, [1, 6, 2]), (.aload_n 0, []), (.getfield 24, [1, 0, 0]), (.aload_n 0, []), (.getfield 28, [1, 1, 0]), (.iastore, []), (.return_, [])], none)
noncomputable def bk_X1_pass : List am_B := [bl_X1_pass_0, bl_X1_pass_1, bl_X1_pass_2, bl_X1_pass_3, bl_X1_pass_4, bl_X1_pass_5]
noncomputable def ck_X1_pass : List (List (Nat × List Nat)) := [[(1, []), (3, [196]), (3, [])],
  [(1, []), (3, [196]), (2, []), (3, [])],
  [(1, [])],
  [(1, []), (3, [208]), (1, []), (3, [196]), (1, []), (1, []), (1, []), (3, [209]), (1, []), (3, [196]), (1, []), (1, []), (1, []), (1, []), (1, []), (3, [201]), (1, []), (3, [196]), (1, []), (1, []), (3, [615, 616, 617, 85]), (3, [201]), (1, []), (3, [196]), (3, [629, 630, 86]), (3, [])],
  [(1, []), (1, []), (3, [632, 634, 9, 86])],
  [(1, []), (1, []), (3, [196]), (1, []), (1, []), (3, [196]), (1, []), (3, [210]), (1, []), (3, [196]), (1, []), (3, [201]), (1, []), (1, [])]]
theorem ok_X1_pass : am_ck 17 bk_X1_pass ck_X1_pass = true := am_ckD (by decide +kernel)
theorem ml_X1_pass : am_ml 17 = 4 := by decide +kernel
theorem pn_X1_pass : plainName (am_y 17).cls = true := by decide +kernel
/-- PaceBorder$Days.collect(LPaceBorder$Ground;)V: number 18, loop heads [1, 3] -/
noncomputable def bl_X1_collect_0 : am_B := (0, [(.iconst 0, []), (.istore_n 2, [])], some 1001)
noncomputable def bl_X1_collect_1 : am_B := (2, [(.iload_n 2, []), (.aload_n 1, []), (.getfield 57, [2, 0, 0]), (.if_icmp .ge 70, [1009, 2])], none)
noncomputable def bl_X1_collect_2 : am_B := (10, [(.iconst 0, []), (.istore_n 3, [])], some 1003)
noncomputable def bl_X1_collect_3 : am_B := (12, [(.iload_n 3, []), (.iconst 2, []), (.if_icmp .ge 57, [1008, 4])], none)
noncomputable def bl_X1_collect_4 : am_B := (17, [(.aload_n 0, []), (.getfield 24, [1, 0, 0]), (.bipush 10, []), (.idiv, []), (.iload_n 2, []), (.iload_n 3, []), (.invokestatic 60, [19, 3, 0, 1]), (.istore 4, []), (.iload 4, []), (.ifCond .lt 32, [7, 5])], none)
noncomputable def bl_X1_collect_5 : am_B := (36, [(.iload 4, []), (.bipush 96, []), (.if_icmp .ge 25, [7, 6])], none)
noncomputable def bl_X1_collect_6 : am_B := (43, [(.aload_n 0, []), (.getfield 21, [1, 7, 2]), (.iload 4, []), (.aload_n 1, []), (.iload_n 3, []), (.iload_n 2, []), (.aload_n 0, []), (.getfield 28, [1, 1, 0]), (.aload_n 0, []), (.iload_n 3, []), (.invokevirtual 64, [15, 1, 1, 1]), (.invokevirtual 68, [43, 4, 2, 1]), (.iastore, [])], some 7)
noncomputable def bl_X1_collect_7 : am_B := (65, [(.iinc 3 1, []), (.goto (-56), [1003])], none)
noncomputable def bl_X1_collect_8 : am_B := (71, [(.iinc 2 1, []), (.goto (-72), [1001])], none)
noncomputable def bl_X1_collect_9 : am_B := (77, [(.return_, [])], none)
noncomputable def bk_X1_collect : List am_B := [bl_X1_collect_0, bl_X1_collect_1, bl_X1_collect_2, bl_X1_collect_3, bl_X1_collect_4, bl_X1_collect_5, bl_X1_collect_6, bl_X1_collect_7, bl_X1_collect_8, bl_X1_collect_9]
noncomputable def ck_X1_collect : List (List (Nat × List Nat)) := [[(1, []), (1, [])],
  [(1, []), (1, []), (3, [148]), (3, [])],
  [(1, []), (1, [])],
  [(1, []), (1, []), (3, [])],
  [(1, []), (3, [196]), (2, []), (1, []), (1, []), (1, []), (3, [553, 554, 86]), (2, []), (2, []), (3, [])],
  [(2, []), (2, []), (3, [])],
  [(1, []), (3, [211]), (2, []), (1, []), (1, []), (1, []), (1, []), (3, [201]), (1, []), (1, []), (3, [636, 600, 601, 86]), (3, [581, 582, 583, 85]), (1, [])],
  [(3, []), (3, [])],
  [(3, []), (3, [])],
  [(1, [])]]
theorem ok_X1_collect : am_ck 18 bk_X1_collect ck_X1_collect = true := am_ckD (by decide +kernel)
theorem ml_X1_collect : am_ml 18 = 5 := by decide +kernel
theorem pn_X1_collect : plainName (am_y 18).cls = true := by decide +kernel
/-- PaceBorder$Days.slotOf(III)I: number 19, loop heads [] -/
noncomputable def bl_X1_slotOf_0 : am_B := (0, [(.iload_n 0, []), (.bipush 12, []), (.imul, []), (.iload_n 1, []), (.iadd, []), (.iconst 2, []), (.imul, []), (.iload_n 2, []), (.iadd, []), (.ireturn, [0])], none)
noncomputable def bk_X1_slotOf : List am_B := [bl_X1_slotOf_0]
noncomputable def ck_X1_slotOf : List (List (Nat × List Nat)) := [[(1, []), (2, []), (1, []), (1, []), (1, []), (1, []), (1, []), (1, []), (1, []), (1, [])]]
theorem ok_X1_slotOf : am_ck 19 bk_X1_slotOf ck_X1_slotOf = true := am_ckD (by decide +kernel)
theorem ml_X1_slotOf : am_ml 19 = 3 := by decide +kernel
theorem pn_X1_slotOf : plainName (am_y 19).cls = true := by decide +kernel
/-- PaceBorder$Days.goBackTo(I)V: number 20, loop heads [] -/
noncomputable def bl_X1_goBackTo_0 : am_B := (0, [(.iload_n 1, []), (.ifCond .lt 25, [3, 1])], none)
noncomputable def bl_X1_goBackTo_1 : am_B := (4, [(.iload_n 1, []), (.aload_n 0, []), (.getfield 24, [1, 0, 0]), (.if_icmp .gt 17, [3, 2])], none)
noncomputable def bl_X1_goBackTo_2 : am_B := (12, [(.aload_n 0, []), (.aload_n 0, []), (.iload_n 1, []), (.invokevirtual 71, [21, 1, 1, 1]), (.putfield 28, [1, 1, 0, 0]), (.aload_n 0, []), (.iload_n 1, []), (.putfield 24, [1, 0, 0, 0])], some 3)
noncomputable def bl_X1_goBackTo_3 : am_B := (26, [(.return_, [])], none)
noncomputable def bk_X1_goBackTo : List am_B := [bl_X1_goBackTo_0, bl_X1_goBackTo_1, bl_X1_goBackTo_2, bl_X1_goBackTo_3]
noncomputable def ck_X1_goBackTo : List (List (Nat × List Nat)) := [[(1, []), (3, [])],
  [(1, []), (1, []), (3, [196]), (3, [])],
  [(1, []), (1, []), (1, []), (3, [560, 561, 562, 86]), (3, [201]), (1, []), (1, []), (3, [196])],
  [(1, [])]]
theorem ok_X1_goBackTo : am_ck 20 bk_X1_goBackTo ck_X1_goBackTo = true := am_ckD (by decide +kernel)
theorem ml_X1_goBackTo : am_ml 20 = 2 := by decide +kernel
theorem pn_X1_goBackTo : plainName (am_y 20).cls = true := by decide +kernel
/-- PaceBorder$Days.borderAhead(I)I: number 21, loop heads [] -/
noncomputable def bl_X1_borderAhead_0 : am_B := (0, [(.iload_n 1, []), (.ifCond .lt 18, [3, 1])], none)
noncomputable def bl_X1_borderAhead_1 : am_B := (4, [(.iload_n 1, []), (.bipush 40, []), (.if_icmp .gt 12, [3, 2])], none)
noncomputable def bl_X1_borderAhead_2 : am_B := (10, [(.aload_n 0, []), (.getfield 18, [1, 6, 2]), (.iload_n 1, []), (.iaload, []), (.goto 4, [4])], none)
noncomputable def bl_X1_borderAhead_3 : am_B := (19, [(.iconst 0, [])], some 4)
noncomputable def bl_X1_borderAhead_4 : am_B := (20, [(.ireturn, [0])], none)
noncomputable def bk_X1_borderAhead : List am_B := [bl_X1_borderAhead_0, bl_X1_borderAhead_1, bl_X1_borderAhead_2, bl_X1_borderAhead_3, bl_X1_borderAhead_4]
noncomputable def ck_X1_borderAhead : List (List (Nat × List Nat)) := [[(1, []), (3, [])],
  [(1, []), (2, []), (3, [])],
  [(1, []), (3, [210]), (1, []), (1, []), (3, [])],
  [(1, [])],
  [(1, [])]]
theorem ok_X1_borderAhead : am_ck 21 bk_X1_borderAhead ck_X1_borderAhead = true := am_ckD (by decide +kernel)
theorem ml_X1_borderAhead : am_ml 21 = 2 := by decide +kernel
theorem pn_X1_borderAhead : plainName (am_y 21).cls = true := by decide +kernel
/-- PaceBorder$Days.paidBy(II)I: number 22, loop heads [1] -/
noncomputable def bl_X1_paidBy_0 : am_B := (0, [(.iconst 0, []), (.istore_n 3, []), (.iconst 0, []), (.istore 4, [])], some 1001)
noncomputable def bl_X1_paidBy_1 : am_B := (5, [(.iload 4, []), (.aload_n 0, []), (.getfield 24, [1, 0, 0]), (.bipush 10, []), (.idiv, []), (.if_icmp .ge 40, [1006, 2])], none)
noncomputable def bl_X1_paidBy_2 : am_B := (17, [(.iload 4, []), (.iload_n 1, []), (.iload_n 2, []), (.invokestatic 60, [19, 3, 0, 1]), (.istore 5, []), (.iload 5, []), (.ifCond .lt 20, [5, 3])], none)
noncomputable def bl_X1_paidBy_3 : am_B := (31, [(.iload 5, []), (.bipush 96, []), (.if_icmp .ge 13, [5, 4])], none)
noncomputable def bl_X1_paidBy_4 : am_B := (38, [(.iload_n 3, []), (.aload_n 0, []), (.getfield 21, [1, 7, 2]), (.iload 5, []), (.iaload, []), (.iadd, []), (.istore_n 3, [])], some 5)
noncomputable def bl_X1_paidBy_5 : am_B := (48, [(.iinc 4 1, []), (.goto (-46), [1001])], none)
noncomputable def bl_X1_paidBy_6 : am_B := (54, [(.iload_n 3, []), (.ireturn, [0])], none)
noncomputable def bk_X1_paidBy : List am_B := [bl_X1_paidBy_0, bl_X1_paidBy_1, bl_X1_paidBy_2, bl_X1_paidBy_3, bl_X1_paidBy_4, bl_X1_paidBy_5, bl_X1_paidBy_6]
noncomputable def ck_X1_paidBy : List (List (Nat × List Nat)) := [[(1, []), (1, []), (1, []), (2, [])],
  [(2, []), (1, []), (3, [196]), (2, []), (1, []), (3, [])],
  [(2, []), (1, []), (1, []), (3, [553, 554, 86]), (2, []), (2, []), (3, [])],
  [(2, []), (2, []), (3, [])],
  [(1, []), (1, []), (3, [211]), (2, []), (1, []), (1, []), (1, [])],
  [(3, []), (3, [])],
  [(1, []), (1, [])]]
theorem ok_X1_paidBy : am_ck 22 bk_X1_paidBy ck_X1_paidBy = true := am_ckD (by decide +kernel)
theorem ml_X1_paidBy : am_ml 22 = 6 := by decide +kernel
theorem pn_X1_paidBy : plainName (am_y 22).cls = true := by decide +kernel
/-- PaceBorder$Days.changesOf(I)I: number 23, loop heads [1] -/
noncomputable def bl_X1_changesOf_0 : am_B := (0, [(.iconst 0, []), (.istore_n 2, []), (.iconst 0, []), (.istore_n 3, [])], some 1001)
noncomputable def bl_X1_changesOf_1 : am_B := (4, [(.iload_n 3, []), (.aload_n 0, []), (.getfield 24, [1, 0, 0]), (.if_icmp .ge 39, [1005, 2])], none)
noncomputable def bl_X1_changesOf_2 : am_B := (12, [(.iload_n 1, []), (.aload_n 0, []), (.iload_n 3, []), (.invokevirtual 71, [21, 1, 1, 1]), (.invokestatic 74, [39, 2, 0, 1]), (.istore 4, []), (.iload 4, []), (.iload_n 1, []), (.aload_n 0, []), (.iload_n 3, []), (.iconst 1, []), (.iadd, []), (.invokevirtual 71, [21, 1, 1, 1]), (.invokestatic 74, [39, 2, 0, 1]), (.if_icmp .eq 6, [4, 3])], none)
noncomputable def bl_X1_changesOf_3 : am_B := (39, [(.iinc 2 1, [])], some 4)
noncomputable def bl_X1_changesOf_4 : am_B := (42, [(.iinc 3 1, []), (.goto (-41), [1001])], none)
noncomputable def bl_X1_changesOf_5 : am_B := (48, [(.iload_n 2, []), (.ireturn, [0])], none)
noncomputable def bk_X1_changesOf : List am_B := [bl_X1_changesOf_0, bl_X1_changesOf_1, bl_X1_changesOf_2, bl_X1_changesOf_3, bl_X1_changesOf_4, bl_X1_changesOf_5]
noncomputable def ck_X1_changesOf : List (List (Nat × List Nat)) := [[(1, []), (1, []), (1, []), (1, [])],
  [(1, []), (1, []), (3, [196]), (3, [])],
  [(1, []), (1, []), (1, []), (3, [560, 561, 562, 86]), (3, [564, 547, 85]), (2, []), (2, []), (1, []), (1, []), (1, []), (1, []), (1, []), (3, [560, 561, 562, 86]), (3, [564, 547, 85]), (3, [])],
  [(3, [])],
  [(3, []), (3, [])],
  [(1, []), (1, [])]]
theorem ok_X1_changesOf : am_ck 23 bk_X1_changesOf ck_X1_changesOf = true := am_ckD (by decide +kernel)
theorem ml_X1_changesOf : am_ml 23 = 5 := by decide +kernel
theorem pn_X1_changesOf : plainName (am_y 23).cls = true := by decide +kernel
/-- PaceBorder$Days.dueOfBoth(LPaceBorder$Ground;II)I: number 24, loop heads [] -/
noncomputable def bl_X1_dueOfBoth_0 : am_B := (0, [(.aload_n 1, []), (.iconst 0, []), (.iload_n 2, []), (.iload_n 3, []), (.aload_n 0, []), (.getfield 31, [1, 2, 0]), (.invokevirtual 68, [43, 4, 2, 1]), (.aload_n 1, []), (.iconst 1, []), (.iload_n 2, []), (.iload_n 3, []), (.aload_n 0, []), (.getfield 34, [1, 3, 0]), (.invokevirtual 68, [43, 4, 2, 1]), (.iadd, []), (.ireturn, [0])], none)
noncomputable def bk_X1_dueOfBoth : List am_B := [bl_X1_dueOfBoth_0]
noncomputable def ck_X1_dueOfBoth : List (List (Nat × List Nat)) := [[(1, []), (1, []), (1, []), (1, []), (1, []), (3, [206]), (3, [581, 582, 583, 85]), (1, []), (1, []), (1, []), (1, []), (1, []), (3, [207]), (3, [581, 582, 583, 85]), (1, []), (1, [])]]
theorem ok_X1_dueOfBoth : am_ck 24 bk_X1_dueOfBoth ck_X1_dueOfBoth = true := am_ckD (by decide +kernel)
theorem ml_X1_dueOfBoth : am_ml 24 = 4 := by decide +kernel
theorem pn_X1_dueOfBoth : plainName (am_y 24).cls = true := by decide +kernel
/-- PaceBorder$Days.dueToCrown(LPaceBorder$Ground;II)I: number 25, loop heads [1] -/
noncomputable def bl_X1_dueToCrown_0 : am_B := (0, [(.iconst 0, []), (.istore 4, []), (.iconst 0, []), (.istore 5, [])], some 1001)
noncomputable def bl_X1_dueToCrown_1 : am_B := (6, [(.iload 5, []), (.aload_n 1, []), (.getfield 57, [2, 0, 0]), (.if_icmp .ge 27, [1003, 2])], none)
noncomputable def bl_X1_dueToCrown_2 : am_B := (15, [(.iload 4, []), (.aload_n 1, []), (.iload_n 2, []), (.iload 5, []), (.iload_n 3, []), (.aload_n 0, []), (.iload_n 2, []), (.invokevirtual 64, [15, 1, 1, 1]), (.invokevirtual 68, [43, 4, 2, 1]), (.iadd, []), (.istore 4, []), (.iinc 5 1, []), (.goto (-30), [1001])], none)
noncomputable def bl_X1_dueToCrown_3 : am_B := (39, [(.iload 4, []), (.ireturn, [0])], none)
noncomputable def bk_X1_dueToCrown : List am_B := [bl_X1_dueToCrown_0, bl_X1_dueToCrown_1, bl_X1_dueToCrown_2, bl_X1_dueToCrown_3]
noncomputable def ck_X1_dueToCrown : List (List (Nat × List Nat)) := [[(1, []), (2, []), (1, []), (2, [])],
  [(2, []), (1, []), (3, [148]), (3, [])],
  [(2, []), (1, []), (1, []), (2, []), (1, []), (1, []), (1, []), (3, [636, 600, 601, 86]), (3, [581, 582, 583, 85]), (1, []), (2, []), (3, []), (3, [])],
  [(2, []), (1, [])]]
theorem ok_X1_dueToCrown : am_ck 25 bk_X1_dueToCrown ck_X1_dueToCrown = true := am_ckD (by decide +kernel)
theorem ml_X1_dueToCrown : am_ml 25 = 6 := by decide +kernel
theorem pn_X1_dueToCrown : plainName (am_y 25).cls = true := by decide +kernel
/-- PaceBorder$Days.retrace(LPaceBorder$Ground;I[I)V: number 26, loop heads [3] -/
noncomputable def bl_X1_retrace_0 : am_B := (0, [(.aload_n 3, []), (.arraylength, []), (.bipush 40, []), (.if_icmp .gt 4, [2, 1])], none)
noncomputable def bl_X1_retrace_1 : am_B := (7, [(.return_, [])], none)
noncomputable def bl_X1_retrace_2 : am_B := (8, [(.aload_n 3, []), (.iconst 0, []), (.iload_n 2, []), (.iastore, []), (.iconst 0, []), (.istore 4, [])], some 1003)
noncomputable def bl_X1_retrace_3 : am_B := (15, [(.iload 4, []), (.aload_n 0, []), (.getfield 24, [1, 0, 0]), (.if_icmp .ge 46, [1006, 4])], none)
noncomputable def bl_X1_retrace_4 : am_B := (24, [(.iload 4, []), (.bipush 40, []), (.if_icmp .ge 39, [1006, 5])], none)
noncomputable def bl_X1_retrace_5 : am_B := (31, [(.aload_n 3, []), (.iload 4, []), (.iconst 1, []), (.iadd, []), (.aload_n 1, []), (.aload_n 3, []), (.iload 4, []), (.iaload, []), (.iload 4, []), (.aload_n 0, []), (.getfield 9, [1, 4, 2]), (.iload 4, []), (.iaload, []), (.aload_n 0, []), (.getfield 15, [1, 5, 2]), (.iload 4, []), (.iaload, []), (.invokevirtual 43, [42, 4, 2, 1]), (.iastore, []), (.iinc 4 1, []), (.goto (-49), [1003])], none)
noncomputable def bl_X1_retrace_6 : am_B := (67, [(.return_, [])], none)
noncomputable def bk_X1_retrace : List am_B := [bl_X1_retrace_0, bl_X1_retrace_1, bl_X1_retrace_2, bl_X1_retrace_3, bl_X1_retrace_4, bl_X1_retrace_5, bl_X1_retrace_6]
noncomputable def ck_X1_retrace : List (List (Nat × List Nat)) := [[(1, []), (1, []), (2, []), (3, [])],
  [(1, [])],
  [(1, []), (1, []), (1, []), (1, []), (1, []), (2, [])],
  [(2, []), (1, []), (3, [196]), (3, [])],
  [(2, []), (2, []), (3, [])],
  [(1, []), (2, []), (1, []), (1, []), (1, []), (1, []), (2, []), (1, []), (2, []), (1, []), (3, [208]), (2, []), (1, []), (1, []), (3, [209]), (2, []), (1, []), (3, [615, 616, 617, 85]), (1, []), (3, []), (3, [])],
  [(1, [])]]
theorem ok_X1_retrace : am_ck 26 bk_X1_retrace ck_X1_retrace = true := am_ckD (by decide +kernel)
theorem ml_X1_retrace : am_ml 26 = 5 := by decide +kernel
theorem pn_X1_retrace : plainName (am_y 26).cls = true := by decide +kernel
end
section
/-- PaceBorder$Reader.<init>(LPaceBorder$Shelf;)V: number 72, loop heads [] -/
noncomputable def bl_X5_init_0 : am_B := (0, [(.aload_n 0, []), (.invokespecial 3, [1000000]), (.aload_n 0, []), (.aload_n 1, []), (.putfield 9, [5, 4, 2, 1]), (.aload_n 0, []), (.new 15, [2, 3]), (.dup, []), (.invokespecial 17, [27, 0]), (.putfield 18, [5, 0, 2, 1]), (.return_, [])], none)
noncomputable def bk_X5_init : List am_B := [bl_X5_init_0]
noncomputable def ck_X5_init : List (List (Nat × List Nat)) := [[(1, []), (3, [136, 100, 101]), (1, []), (1, []), (3, [168]), (1, []), (3, [137, 138, 85]), (1, []), (3, [139, 140, 85]), (3, [160]), (1, [])]]
theorem ok_X5_init : am_ck 72 bk_X5_init ck_X5_init = true := am_ckD (by decide +kernel)
theorem ml_X5_init : am_ml 72 = 2 := by decide +kernel
theorem pn_X5_init : plainName (am_y 72).cls = true := by decide +kernel
/-- PaceBorder$Reader.read(I)I: number 73, loop heads [1] -/
noncomputable def bl_X5_read_0 : am_B := (0, [(.aload_n 0, []), (.iload_n 1, []), (.putfield 22, [5, 5, 0, 0]), (.aload_n 0, []), (.iconst 0, []), (.putfield 26, [5, 6, 0, 0]), (.aload_n 0, []), (.getfield 18, [5, 0, 2]), (.invokevirtual 29, [28, 0, 2, 0]), (.iconst 0, []), (.istore_n 2, [])], some 1001)
noncomputable def bl_X5_read_1 : am_B := (19, [(.iload_n 2, []), (.bipush 12, []), (.if_icmp .gt 62, [1011, 2])], none)
noncomputable def bl_X5_read_2 : am_B := (25, [(.aload_n 0, []), (.invokevirtual 32, [74, 0, 5, 0]), (.aload_n 0, []), (.invokevirtual 35, [75, 0, 5, 1]), (.bipush 98, []), (.if_icmp .ne 31, [8, 3])], none)
noncomputable def bl_X5_read_3 : am_B := (38, [(.aload_n 0, []), (.getfield 18, [5, 0, 2]), (.getfield 39, [2, 0, 0]), (.iconst 2, []), (.if_icmp .lt 20, [8, 1004])], none)
noncomputable def bl_X5_read_4 : am_B := (49, [(.aload_n 0, []), (.invokevirtual 42, [77, 0, 5, 1]), (.ifCond .eq 8, [6, 5])], none)
noncomputable def bl_X5_read_5 : am_B := (56, [(.bipush (-9), []), (.goto 7, [7])], none)
noncomputable def bl_X5_read_6 : am_B := (61, [(.aload_n 0, []), (.getfield 26, [5, 6, 0])], some 7)
noncomputable def bl_X5_read_7 : am_B := (65, [(.ireturn, [0])], none)
noncomputable def bl_X5_read_8 : am_B := (66, [(.aload_n 0, []), (.invokevirtual 46, [76, 0, 5, 1]), (.ifCond .ne 8, [10, 9])], none)
noncomputable def bl_X5_read_9 : am_B := (73, [(.aload_n 0, []), (.getfield 26, [5, 6, 0]), (.ireturn, [0])], none)
noncomputable def bl_X5_read_10 : am_B := (78, [(.iinc 2 1, []), (.goto (-62), [1001])], none)
noncomputable def bl_X5_read_11 : am_B := (84, [(.aload_n 0, []), (.getfield 26, [5, 6, 0]), (.ireturn, [0])], none)
noncomputable def bk_X5_read : List am_B := [bl_X5_read_0, bl_X5_read_1, bl_X5_read_2, bl_X5_read_3, bl_X5_read_4, bl_X5_read_5, bl_X5_read_6, bl_X5_read_7, bl_X5_read_8, bl_X5_read_9, bl_X5_read_10, bl_X5_read_11]
noncomputable def ck_X5_read : List (List (Nat × List Nat)) := [[(1, []), (1, []), (3, [169]), (1, []), (1, []), (3, [170]), (1, []), (3, [160]), (3, [474, 475, 476, 85]), (1, []), (1, [])],
  [(1, []), (2, []), (3, [])],
  [(1, []), (3, [478, 480, 2, 84]), (1, []), (3, [482, 484, 3, 84]), (2, []), (3, [])],
  [(1, []), (3, [160]), (3, [145]), (1, []), (3, [])],
  [(1, []), (3, [487, 489, 4, 84]), (3, [])],
  [(2, []), (3, [])],
  [(1, []), (3, [170])],
  [(1, [])],
  [(1, []), (3, [496, 498, 6, 84]), (3, [])],
  [(1, []), (3, [170]), (1, [])],
  [(3, []), (3, [])],
  [(1, []), (3, [170]), (1, [])]]
theorem ok_X5_read : am_ck 73 bk_X5_read ck_X5_read = true := am_ckD (by decide +kernel)
theorem ml_X5_read : am_ml 73 = 3 := by decide +kernel
theorem pn_X5_read : plainName (am_y 73).cls = true := by decide +kernel
/-- PaceBorder$Reader.skipBlanks()V: number 74, loop heads [1] -/
noncomputable def bl_X5_skipBlanks_0 : am_B := (0, [(.iconst 0, []), (.istore_n 1, [])], some 1001)
noncomputable def bl_X5_skipBlanks_1 : am_B := (2, [(.iload_n 1, []), (.bipush 60, []), (.if_icmp .ge 28, [1004, 2])], none)
noncomputable def bl_X5_skipBlanks_2 : am_B := (8, [(.aload_n 0, []), (.invokevirtual 35, [75, 0, 5, 1]), (.bipush 32, []), (.if_icmp .ne 19, [1004, 3])], none)
noncomputable def bl_X5_skipBlanks_3 : am_B := (17, [(.aload_n 0, []), (.dup, []), (.getfield 26, [5, 6, 0]), (.iconst 1, []), (.iadd, []), (.putfield 26, [5, 6, 0, 0]), (.iinc 1 1, []), (.goto (-28), [1001])], none)
noncomputable def bl_X5_skipBlanks_4 : am_B := (33, [(.return_, [])], none)
noncomputable def bk_X5_skipBlanks : List am_B := [bl_X5_skipBlanks_0, bl_X5_skipBlanks_1, bl_X5_skipBlanks_2, bl_X5_skipBlanks_3, bl_X5_skipBlanks_4]
noncomputable def ck_X5_skipBlanks : List (List (Nat × List Nat)) := [[(1, []), (1, [])],
  [(1, []), (2, []), (3, [])],
  [(1, []), (3, [482, 484, 3, 84]), (2, []), (3, [])],
  [(1, []), (1, []), (3, [170]), (1, []), (1, []), (3, [170]), (3, []), (3, [])],
  [(1, [])]]
theorem ok_X5_skipBlanks : am_ck 74 bk_X5_skipBlanks ck_X5_skipBlanks = true := am_ckD (by decide +kernel)
theorem ml_X5_skipBlanks : am_ml 74 = 2 := by decide +kernel
theorem pn_X5_skipBlanks : plainName (am_y 74).cls = true := by decide +kernel
/-- PaceBorder$Reader.sign()I: number 75, loop heads [] -/
noncomputable def bl_X5_sign_0 : am_B := (0, [(.aload_n 0, []), (.getfield 9, [5, 4, 2]), (.aload_n 0, []), (.getfield 22, [5, 5, 0]), (.aload_n 0, []), (.getfield 26, [5, 6, 0]), (.invokevirtual 49, [88, 2, 6, 1]), (.ireturn, [0])], none)
noncomputable def bk_X5_sign : List am_B := [bl_X5_sign_0]
noncomputable def ck_X5_sign : List (List (Nat × List Nat)) := [[(1, []), (3, [168]), (1, []), (3, [169]), (1, []), (3, [170]), (3, [486, 408, 409, 81]), (1, [])]]
theorem ok_X5_sign : am_ck 75 bk_X5_sign ck_X5_sign = true := am_ckD (by decide +kernel)
theorem ml_X5_sign : am_ml 75 = 1 := by decide +kernel
theorem pn_X5_sign : plainName (am_y 75).cls = true := by decide +kernel
/-- PaceBorder$Reader.readStrip()Z: number 76, loop heads [] -/
noncomputable def bl_X5_readStrip_0 : am_B := (0, [(.aload_n 0, []), (.invokevirtual 35, [75, 0, 5, 1]), (.invokestatic 55, [79, 1, 0, 1]), (.istore_n 1, []), (.iload_n 1, []), (.ifCond .lt 13, [2, 1])], none)
noncomputable def bl_X5_readStrip_1 : am_B := (12, [(.aload_n 0, []), (.getfield 18, [5, 0, 2]), (.invokevirtual 59, [29, 0, 2, 1]), (.ifCond .ne 5, [3, 2])], none)
noncomputable def bl_X5_readStrip_2 : am_B := (22, [(.iconst 0, []), (.ireturn, [1])], none)
noncomputable def bl_X5_readStrip_3 : am_B := (24, [(.aload_n 0, []), (.dup, []), (.getfield 26, [5, 6, 0]), (.iconst 1, []), (.iadd, []), (.putfield 26, [5, 6, 0, 0]), (.aload_n 0, []), (.iconst 0, []), (.bipush 9, []), (.invokevirtual 62, [78, 2, 5, 1]), (.istore_n 2, []), (.iload_n 2, []), (.ifCond .ge 5, [5, 4])], none)
noncomputable def bl_X5_readStrip_4 : am_B := (46, [(.iconst 0, []), (.ireturn, [1])], none)
noncomputable def bl_X5_readStrip_5 : am_B := (48, [(.aload_n 0, []), (.getfield 18, [5, 0, 2]), (.iload_n 1, []), (.iload_n 2, []), (.invokevirtual 65, [30, 2, 2, 0]), (.iconst 1, []), (.ireturn, [1])], none)
noncomputable def bk_X5_readStrip : List am_B := [bl_X5_readStrip_0, bl_X5_readStrip_1, bl_X5_readStrip_2, bl_X5_readStrip_3, bl_X5_readStrip_4, bl_X5_readStrip_5]
noncomputable def ck_X5_readStrip : List (List (Nat × List Nat)) := [[(1, []), (3, [482, 484, 3, 84]), (3, [500, 501, 84]), (1, []), (1, []), (3, [])],
  [(1, []), (3, [160]), (3, [503, 504, 505, 85]), (3, [])],
  [(1, []), (1, [])],
  [(1, []), (1, []), (3, [170]), (1, []), (1, []), (3, [170]), (1, []), (1, []), (2, []), (3, [491, 493, 5, 84]), (1, []), (1, []), (3, [])],
  [(1, []), (1, [])],
  [(1, []), (3, [160]), (1, []), (1, []), (3, [507, 508, 509, 85]), (1, []), (1, [])]]
theorem ok_X5_readStrip : am_ck 76 bk_X5_readStrip ck_X5_readStrip = true := am_ckD (by decide +kernel)
theorem ml_X5_readStrip : am_ml 76 = 3 := by decide +kernel
theorem pn_X5_readStrip : plainName (am_y 76).cls = true := by decide +kernel
/-- PaceBorder$Reader.readEnd()Z: number 77, loop heads [] -/
noncomputable def bl_X5_readEnd_0 : am_B := (0, [(.aload_n 0, []), (.dup, []), (.getfield 26, [5, 6, 0]), (.iconst 1, []), (.iadd, []), (.putfield 26, [5, 6, 0, 0]), (.aload_n 0, []), (.aload_n 0, []), (.iconst 0, []), (.aload_n 0, []), (.getfield 18, [5, 0, 2]), (.getfield 39, [2, 0, 0]), (.invokevirtual 62, [78, 2, 5, 1]), (.putfield 69, [5, 1, 0, 0]), (.aload_n 0, []), (.getfield 69, [5, 1, 0]), (.ifCond .ge 5, [2, 1])], none)
noncomputable def bl_X5_readEnd_1 : am_B := (33, [(.iconst 0, []), (.ireturn, [1])], none)
noncomputable def bl_X5_readEnd_2 : am_B := (35, [(.aload_n 0, []), (.aload_n 0, []), (.iconst 1, []), (.bipush 9, []), (.invokevirtual 62, [78, 2, 5, 1]), (.putfield 72, [5, 2, 0, 0]), (.aload_n 0, []), (.getfield 72, [5, 2, 0]), (.ifCond .ge 5, [4, 3])], none)
noncomputable def bl_X5_readEnd_3 : am_B := (53, [(.iconst 0, []), (.ireturn, [1])], none)
noncomputable def bl_X5_readEnd_4 : am_B := (55, [(.aload_n 0, []), (.aload_n 0, []), (.iconst 1, []), (.bipush 9, []), (.invokevirtual 62, [78, 2, 5, 1]), (.putfield 75, [5, 3, 0, 0]), (.aload_n 0, []), (.getfield 75, [5, 3, 0]), (.ifCond .ge 5, [6, 5])], none)
noncomputable def bl_X5_readEnd_5 : am_B := (73, [(.iconst 0, []), (.ireturn, [1])], none)
noncomputable def bl_X5_readEnd_6 : am_B := (75, [(.aload_n 0, []), (.invokevirtual 32, [74, 0, 5, 0]), (.aload_n 0, []), (.getfield 26, [5, 6, 0]), (.aload_n 0, []), (.getfield 9, [5, 4, 2]), (.aload_n 0, []), (.getfield 22, [5, 5, 0]), (.invokevirtual 78, [83, 1, 6, 1]), (.if_icmp .lt 7, [8, 7])], none)
noncomputable def bl_X5_readEnd_7 : am_B := (97, [(.iconst 1, []), (.goto 4, [9])], none)
noncomputable def bl_X5_readEnd_8 : am_B := (101, [(.iconst 0, [])], some 9)
noncomputable def bl_X5_readEnd_9 : am_B := (102, [(.ireturn, [1])], none)
noncomputable def bk_X5_readEnd : List am_B := [bl_X5_readEnd_0, bl_X5_readEnd_1, bl_X5_readEnd_2, bl_X5_readEnd_3, bl_X5_readEnd_4, bl_X5_readEnd_5, bl_X5_readEnd_6, bl_X5_readEnd_7, bl_X5_readEnd_8, bl_X5_readEnd_9]
noncomputable def ck_X5_readEnd : List (List (Nat × List Nat)) := [[(1, []), (1, []), (3, [170]), (1, []), (1, []), (3, [170]), (1, []), (1, []), (1, []), (1, []), (3, [160]), (3, [145]), (3, [491, 493, 5, 84]), (3, [162]), (1, []), (3, [162]), (3, [])],
  [(1, []), (1, [])],
  [(1, []), (1, []), (1, []), (2, []), (3, [491, 493, 5, 84]), (3, [164]), (1, []), (3, [164]), (3, [])],
  [(1, []), (1, [])],
  [(1, []), (1, []), (1, []), (2, []), (3, [491, 493, 5, 84]), (3, [166]), (1, []), (3, [166]), (3, [])],
  [(1, []), (1, [])],
  [(1, []), (3, [478, 480, 2, 84]), (1, []), (3, [170]), (1, []), (3, [168]), (1, []), (3, [169]), (3, [495, 400, 401, 81]), (3, [])],
  [(1, []), (3, [])],
  [(1, [])],
  [(1, [])]]
theorem ok_X5_readEnd : am_ck 77 bk_X5_readEnd ck_X5_readEnd = true := am_ckD (by decide +kernel)
theorem ml_X5_readEnd : am_ml 77 = 1 := by decide +kernel
theorem pn_X5_readEnd : plainName (am_y 77).cls = true := by decide +kernel
/-- PaceBorder$Reader.readFigure(II)I: number 78, loop heads [] -/
noncomputable def bl_X5_readFigure_0 : am_B := (0, [(.aload_n 0, []), (.invokevirtual 35, [75, 0, 5, 1]), (.istore_n 3, []), (.iload_n 3, []), (.bipush 48, []), (.isub, []), (.istore 4, []), (.iload_n 3, []), (.bipush 48, []), (.if_icmp .lt 21, [4, 1])], none)
noncomputable def bl_X5_readFigure_1 : am_B := (17, [(.iload_n 3, []), (.bipush 57, []), (.if_icmp .gt 15, [4, 2])], none)
noncomputable def bl_X5_readFigure_2 : am_B := (23, [(.iload 4, []), (.iload_n 1, []), (.if_icmp .lt 9, [4, 3])], none)
noncomputable def bl_X5_readFigure_3 : am_B := (29, [(.iload 4, []), (.iload_n 2, []), (.if_icmp .le 5, [5, 4])], none)
noncomputable def bl_X5_readFigure_4 : am_B := (35, [(.iconst (-1), []), (.ireturn, [0])], none)
noncomputable def bl_X5_readFigure_5 : am_B := (37, [(.aload_n 0, []), (.dup, []), (.getfield 26, [5, 6, 0]), (.iconst 1, []), (.iadd, []), (.putfield 26, [5, 6, 0, 0]), (.iload 4, []), (.ireturn, [0])], none)
noncomputable def bk_X5_readFigure : List am_B := [bl_X5_readFigure_0, bl_X5_readFigure_1, bl_X5_readFigure_2, bl_X5_readFigure_3, bl_X5_readFigure_4, bl_X5_readFigure_5]
noncomputable def ck_X5_readFigure : List (List (Nat × List Nat)) := [[(1, []), (3, [482, 484, 3, 84]), (1, []), (1, []), (2, []), (1, []), (2, []), (1, []), (2, []), (3, [])],
  [(1, []), (2, []), (3, [])],
  [(2, []), (1, []), (3, [])],
  [(2, []), (1, []), (3, [])],
  [(1, []), (1, [])],
  [(1, []), (1, []), (3, [170]), (1, []), (1, []), (3, [170]), (2, []), (1, [])]]
theorem ok_X5_readFigure : am_ck 78 bk_X5_readFigure ck_X5_readFigure = true := am_ckD (by decide +kernel)
theorem ml_X5_readFigure : am_ml 78 = 5 := by decide +kernel
theorem pn_X5_readFigure : plainName (am_y 78).cls = true := by decide +kernel
/-- PaceBorder$Reader.kindOfSign(I)I: number 79, loop heads [] -/
noncomputable def bl_X5_kindOfSign_0 : am_B := (0, [(.iload_n 0, []), (.tableswitch 99 102 119 #[89, 99, 99, 95, 99, 99, 99, 99, 99, 99, 99, 99, 93, 87, 97, 99, 99, 91], [7, 2, 7, 7, 5, 7, 7, 7, 7, 7, 7, 7, 7, 4, 1, 6, 7, 7, 3])], none)
noncomputable def bl_X5_kindOfSign_1 : am_B := (88, [(.iconst 0, []), (.ireturn, [0])], none)
noncomputable def bl_X5_kindOfSign_2 : am_B := (90, [(.iconst 1, []), (.ireturn, [0])], none)
noncomputable def bl_X5_kindOfSign_3 : am_B := (92, [(.iconst 2, []), (.ireturn, [0])], none)
noncomputable def bl_X5_kindOfSign_4 : am_B := (94, [(.iconst 3, []), (.ireturn, [0])], none)
noncomputable def bl_X5_kindOfSign_5 : am_B := (96, [(.iconst 4, []), (.ireturn, [0])], none)
noncomputable def bl_X5_kindOfSign_6 : am_B := (98, [(.iconst 5, []), (.ireturn, [0])], none)
noncomputable def bl_X5_kindOfSign_7 : am_B := (100, [(.iconst (-1), []), (.ireturn, [0])], none)
noncomputable def bk_X5_kindOfSign : List am_B := [bl_X5_kindOfSign_0, bl_X5_kindOfSign_1, bl_X5_kindOfSign_2, bl_X5_kindOfSign_3, bl_X5_kindOfSign_4, bl_X5_kindOfSign_5, bl_X5_kindOfSign_6, bl_X5_kindOfSign_7]
noncomputable def ck_X5_kindOfSign : List (List (Nat × List Nat)) := [[(1, []), (87, [])],
  [(1, []), (1, [])],
  [(1, []), (1, [])],
  [(1, []), (1, [])],
  [(1, []), (1, [])],
  [(1, []), (1, [])],
  [(1, []), (1, [])],
  [(1, []), (1, [])]]
theorem ok_X5_kindOfSign : am_ck 79 bk_X5_kindOfSign ck_X5_kindOfSign = true := am_ckD (by decide +kernel)
theorem ml_X5_kindOfSign : am_ml 79 = 1 := by decide +kernel
theorem pn_X5_kindOfSign : plainName (am_y 79).cls = true := by decide +kernel
end
section
/-- PaceBorder$Plan.<init>(LPaceBorder$Ground;LPaceBorder$Days;)V: number 50, loop heads [] -/
noncomputable def bl_X4_init_0 : am_B := (0, [(.aload_n 0, []), (.invokespecial 3, [1000000]), (.aload_n 0, []), (.aload_n 1, []), (.putfield 9, [4, 0, 2, 1]), (.aload_n 0, []), (.aload_n 2, []), (.putfield 15, [4, 1, 2, 1]), (.aload_n 0, []), (.bipush 13, []), (.newarray .int, [10]), (.putfield 19, [4, 2, 2, 1]), (.aload_n 0, []), (.sipush 273, []), (.newarray .int, [10]), (.putfield 23, [4, 3, 2, 1]), (.aload_n 0, []), (.bipush 13, []), (.newarray .long, [11]), (.putfield 26, [4, 4, 2, 1]), (.aload_n 0, []), (.bipush 13, []), (.newarray .long, [11]), (.putfield 30, [4, 5, 2, 1]), (.return_, [])], none)
noncomputable def bk_X4_init : List am_B := [bl_X4_init_0]
noncomputable def ck_X4_init : List (List (Nat × List Nat)) := [[(1, []), (3, [236, 100, 101]), (1, []), (1, []), (3, [237]), (1, []), (1, []), (3, [238]), (1, []), (2, []), (2, []), (3, [239]), (1, []), (3, []), (2, []), (3, [240]), (1, []), (2, []), (2, []), (3, [241]), (1, []), (2, []), (2, []), (3, [242]), (1, [])]]
theorem ok_X4_init : am_ck 50 bk_X4_init ck_X4_init = true := am_ckD (by decide +kernel)
theorem ml_X4_init : am_ml 50 = 3 := by decide +kernel
theorem pn_X4_init : plainName (am_y 50).cls = true := by decide +kernel
/-- PaceBorder$Plan.firstThatCannotBe(LPaceBorder$Shelf;I)I: number 51, loop heads [1] -/
noncomputable def bl_X4_firstThatCannotBe_0 : am_B := (0, [(.aload_n 1, []), (.iload_n 2, []), (.invokevirtual 33, [83, 1, 6, 1]), (.istore_n 3, []), (.aload_n 0, []), (.getfield 15, [4, 1, 2]), (.getfield 39, [1, 1, 0]), (.istore 4, []), (.iconst 0, []), (.istore 5, [])], some 1001)
noncomputable def bl_X4_firstThatCannotBe_1 : am_B := (18, [(.iload 5, []), (.iload_n 3, []), (.if_icmp .ge 52, [1005, 2])], none)
noncomputable def bl_X4_firstThatCannotBe_2 : am_B := (24, [(.aload_n 1, []), (.iload_n 2, []), (.iload 5, []), (.invokevirtual 45, [88, 2, 6, 1]), (.istore 6, []), (.aload_n 0, []), (.getfield 9, [4, 0, 2]), (.iload 4, []), (.iload 6, []), (.aload_n 0, []), (.getfield 15, [4, 1, 2]), (.getfield 49, [1, 0, 0]), (.iload 5, []), (.iadd, []), (.invokevirtual 52, [41, 3, 2, 1]), (.ifCond .ge 6, [4, 3])], none)
noncomputable def bl_X4_firstThatCannotBe_3 : am_B := (57, [(.iload 5, []), (.ireturn, [0])], none)
noncomputable def bl_X4_firstThatCannotBe_4 : am_B := (60, [(.iload 4, []), (.iload 6, []), (.iadd, []), (.istore 4, []), (.iinc 5 1, []), (.goto (-52), [1001])], none)
noncomputable def bl_X4_firstThatCannotBe_5 : am_B := (73, [(.iload_n 3, []), (.ireturn, [0])], none)
noncomputable def bk_X4_firstThatCannotBe : List am_B := [bl_X4_firstThatCannotBe_0, bl_X4_firstThatCannotBe_1, bl_X4_firstThatCannotBe_2, bl_X4_firstThatCannotBe_3, bl_X4_firstThatCannotBe_4, bl_X4_firstThatCannotBe_5]
noncomputable def ck_X4_firstThatCannotBe : List (List (Nat × List Nat)) := [[(1, []), (1, []), (3, [687, 400, 401, 81]), (1, []), (1, []), (3, [238]), (3, [200]), (2, []), (1, []), (2, [])],
  [(2, []), (1, []), (3, [])],
  [(1, []), (1, []), (2, []), (3, [688, 408, 409, 81]), (2, []), (1, []), (3, [237]), (2, []), (2, []), (1, []), (3, [238]), (3, [195]), (2, []), (1, []), (3, [689, 623, 624, 85]), (3, [])],
  [(2, []), (1, [])],
  [(2, []), (2, []), (1, []), (2, []), (3, []), (3, [])],
  [(1, []), (1, [])]]
theorem ok_X4_firstThatCannotBe : am_ck 51 bk_X4_firstThatCannotBe ck_X4_firstThatCannotBe = true := am_ckD (by decide +kernel)
theorem ml_X4_firstThatCannotBe : am_ml 51 = 7 := by decide +kernel
theorem pn_X4_firstThatCannotBe : plainName (am_y 51).cls = true := by decide +kernel
/-- PaceBorder$Plan.borderBehind(LPaceBorder$Shelf;II)I: number 52, loop heads [1] -/
noncomputable def bl_X4_borderBehind_0 : am_B := (0, [(.aload_n 0, []), (.getfield 15, [4, 1, 2]), (.getfield 39, [1, 1, 0]), (.istore 4, []), (.iconst 0, []), (.istore 5, [])], some 1001)
noncomputable def bl_X4_borderBehind_1 : am_B := (12, [(.iload 5, []), (.iload_n 3, []), (.if_icmp .ge 21, [1003, 2])], none)
noncomputable def bl_X4_borderBehind_2 : am_B := (18, [(.iload 4, []), (.aload_n 1, []), (.iload_n 2, []), (.iload 5, []), (.invokevirtual 45, [88, 2, 6, 1]), (.iadd, []), (.istore 4, []), (.iinc 5 1, []), (.goto (-21), [1001])], none)
noncomputable def bl_X4_borderBehind_3 : am_B := (36, [(.iload 4, []), (.ireturn, [0])], none)
noncomputable def bk_X4_borderBehind : List am_B := [bl_X4_borderBehind_0, bl_X4_borderBehind_1, bl_X4_borderBehind_2, bl_X4_borderBehind_3]
noncomputable def ck_X4_borderBehind : List (List (Nat × List Nat)) := [[(1, []), (3, [238]), (3, [200]), (2, []), (1, []), (2, [])],
  [(2, []), (1, []), (3, [])],
  [(2, []), (1, []), (1, []), (2, []), (3, [688, 408, 409, 81]), (1, []), (2, []), (3, []), (3, [])],
  [(2, []), (1, [])]]
theorem ok_X4_borderBehind : am_ck 52 bk_X4_borderBehind ck_X4_borderBehind = true := am_ckD (by decide +kernel)
theorem ml_X4_borderBehind : am_ml 52 = 6 := by decide +kernel
theorem pn_X4_borderBehind : plainName (am_y 52).cls = true := by decide +kernel
/-- PaceBorder$Plan.rudenessOf(LPaceBorder$Shelf;I)I: number 53, loop heads [1] -/
noncomputable def bl_X4_rudenessOf_0 : am_B := (0, [(.iconst 0, []), (.istore_n 3, []), (.aload_n 0, []), (.getfield 15, [4, 1, 2]), (.getfield 39, [1, 1, 0]), (.istore 4, []), (.iconst 0, []), (.istore 5, [])], some 1001)
noncomputable def bl_X4_rudenessOf_1 : am_B := (14, [(.iload 5, []), (.aload_n 1, []), (.iload_n 2, []), (.invokevirtual 33, [83, 1, 6, 1]), (.if_icmp .ge 49, [1003, 2])], none)
noncomputable def bl_X4_rudenessOf_2 : am_B := (24, [(.aload_n 1, []), (.iload_n 2, []), (.iload 5, []), (.invokevirtual 45, [88, 2, 6, 1]), (.istore 6, []), (.iload_n 3, []), (.aload_n 0, []), (.getfield 9, [4, 0, 2]), (.iload 4, []), (.iload 6, []), (.aload_n 0, []), (.getfield 15, [4, 1, 2]), (.getfield 49, [1, 0, 0]), (.iload 5, []), (.iadd, []), (.invokevirtual 52, [41, 3, 2, 1]), (.iadd, []), (.istore_n 3, []), (.iload 4, []), (.iload 6, []), (.iadd, []), (.istore 4, []), (.iinc 5 1, []), (.goto (-53), [1001])], none)
noncomputable def bl_X4_rudenessOf_3 : am_B := (70, [(.iload_n 3, []), (.ireturn, [0])], none)
noncomputable def bk_X4_rudenessOf : List am_B := [bl_X4_rudenessOf_0, bl_X4_rudenessOf_1, bl_X4_rudenessOf_2, bl_X4_rudenessOf_3]
noncomputable def ck_X4_rudenessOf : List (List (Nat × List Nat)) := [[(1, []), (1, []), (1, []), (3, [238]), (3, [200]), (2, []), (1, []), (2, [])],
  [(2, []), (1, []), (1, []), (3, [687, 400, 401, 81]), (3, [])],
  [(1, []), (1, []), (2, []), (3, [688, 408, 409, 81]), (2, []), (1, []), (1, []), (3, [237]), (2, []), (2, []), (1, []), (3, [238]), (3, [195]), (2, []), (1, []), (3, [689, 623, 624, 85]), (1, []), (1, []), (2, []), (2, []), (1, []), (2, []), (3, []), (3, [])],
  [(1, []), (1, [])]]
theorem ok_X4_rudenessOf : am_ck 53 bk_X4_rudenessOf ck_X4_rudenessOf = true := am_ckD (by decide +kernel)
theorem ml_X4_rudenessOf : am_ml 53 = 7 := by decide +kernel
theorem pn_X4_rudenessOf : plainName (am_y 53).cls = true := by decide +kernel
/-- PaceBorder$Plan.tollsOf(LPaceBorder$Shelf;I)I: number 54, loop heads [1] -/
noncomputable def bl_X4_tollsOf_0 : am_B := (0, [(.iconst 0, []), (.istore_n 3, []), (.aload_n 0, []), (.getfield 15, [4, 1, 2]), (.getfield 39, [1, 1, 0]), (.istore 4, []), (.iconst 0, []), (.istore 5, [])], some 1001)
noncomputable def bl_X4_tollsOf_1 : am_B := (14, [(.iload 5, []), (.aload_n 1, []), (.iload_n 2, []), (.invokevirtual 33, [83, 1, 6, 1]), (.if_icmp .ge 40, [1003, 2])], none)
noncomputable def bl_X4_tollsOf_2 : am_B := (24, [(.iload 4, []), (.aload_n 1, []), (.iload_n 2, []), (.iload 5, []), (.invokevirtual 45, [88, 2, 6, 1]), (.iadd, []), (.istore 4, []), (.iload_n 3, []), (.aload_n 0, []), (.iload 4, []), (.aload_n 0, []), (.getfield 15, [4, 1, 2]), (.getfield 49, [1, 0, 0]), (.iload 5, []), (.iadd, []), (.invokevirtual 58, [58, 2, 4, 1]), (.iadd, []), (.istore_n 3, []), (.iinc 5 1, []), (.goto (-44), [1001])], none)
noncomputable def bl_X4_tollsOf_3 : am_B := (61, [(.iload_n 3, []), (.ireturn, [0])], none)
noncomputable def bk_X4_tollsOf : List am_B := [bl_X4_tollsOf_0, bl_X4_tollsOf_1, bl_X4_tollsOf_2, bl_X4_tollsOf_3]
noncomputable def ck_X4_tollsOf : List (List (Nat × List Nat)) := [[(1, []), (1, []), (1, []), (3, [238]), (3, [200]), (2, []), (1, []), (2, [])],
  [(2, []), (1, []), (1, []), (3, [687, 400, 401, 81]), (3, [])],
  [(2, []), (1, []), (1, []), (2, []), (3, [688, 408, 409, 81]), (1, []), (2, []), (1, []), (1, []), (2, []), (1, []), (3, [238]), (3, [195]), (2, []), (1, []), (3, [719, 721, 11, 87]), (1, []), (1, []), (3, []), (3, [])],
  [(1, []), (1, [])]]
theorem ok_X4_tollsOf : am_ck 54 bk_X4_tollsOf ck_X4_tollsOf = true := am_ckD (by decide +kernel)
theorem ml_X4_tollsOf : am_ml 54 = 6 := by decide +kernel
theorem pn_X4_tollsOf : plainName (am_y 54).cls = true := by decide +kernel
/-- PaceBorder$Plan.tollNothing()V: number 55, loop heads [] -/
noncomputable def bl_X4_tollNothing_0 : am_B := (0, [(.aload_n 0, []), (.getfield 19, [4, 2, 2]), (.iconst 0, []), (.invokestatic 61, [277, 2, 0, 0]), (.return_, [])], none)
noncomputable def bk_X4_tollNothing : List am_B := [bl_X4_tollNothing_0]
noncomputable def ck_X4_tollNothing : List (List (Nat × List Nat)) := [[(1, []), (3, [239]), (1, []), (3, [748, 112, 83]), (1, [])]]
theorem ok_X4_tollNothing : am_ck 55 bk_X4_tollNothing ck_X4_tollNothing = true := am_ckD (by decide +kernel)
theorem ml_X4_tollNothing : am_ml 55 = 1 := by decide +kernel
theorem pn_X4_tollNothing : plainName (am_y 55).cls = true := by decide +kernel
/-- PaceBorder$Plan.tollOfStrip(I)V: number 56, loop heads [1] -/
noncomputable def bl_X4_tollOfStrip_0 : am_B := (0, [(.iconst 0, []), (.istore_n 2, [])], some 1001)
noncomputable def bl_X4_tollOfStrip_1 : am_B := (2, [(.iload_n 2, []), (.bipush 13, []), (.if_icmp .ge 28, [1003, 2])], none)
noncomputable def bl_X4_tollOfStrip_2 : am_B := (8, [(.aload_n 0, []), (.getfield 19, [4, 2, 2]), (.iload_n 2, []), (.aload_n 0, []), (.getfield 15, [4, 1, 2]), (.aload_n 0, []), (.getfield 9, [4, 0, 2]), (.iload_n 1, []), (.iload_n 2, []), (.invokevirtual 67, [24, 3, 1, 1]), (.iastore, []), (.iinc 2 1, []), (.goto (-28), [1001])], none)
noncomputable def bl_X4_tollOfStrip_3 : am_B := (33, [(.return_, [])], none)
noncomputable def bk_X4_tollOfStrip : List am_B := [bl_X4_tollOfStrip_0, bl_X4_tollOfStrip_1, bl_X4_tollOfStrip_2, bl_X4_tollOfStrip_3]
noncomputable def ck_X4_tollOfStrip : List (List (Nat × List Nat)) := [[(1, []), (1, [])],
  [(1, []), (2, []), (3, [])],
  [(1, []), (3, [239]), (1, []), (1, []), (3, [238]), (1, []), (3, [237]), (1, []), (1, []), (3, [714, 578, 579, 86]), (1, []), (3, []), (3, [])],
  [(1, [])]]
theorem ok_X4_tollOfStrip : am_ck 56 bk_X4_tollOfStrip ck_X4_tollOfStrip = true := am_ckD (by decide +kernel)
theorem ml_X4_tollOfStrip : am_ml 56 = 3 := by decide +kernel
theorem pn_X4_tollOfStrip : plainName (am_y 56).cls = true := by decide +kernel
/-- PaceBorder$Plan.tollLostBy(I)V: number 57, loop heads [1] -/
noncomputable def bl_X4_tollLostBy_0 : am_B := (0, [(.iconst 0, []), (.istore_n 2, [])], some 1001)
noncomputable def bl_X4_tollLostBy_1 : am_B := (2, [(.iload_n 2, []), (.bipush 13, []), (.if_icmp .ge 29, [1003, 2])], none)
noncomputable def bl_X4_tollLostBy_2 : am_B := (8, [(.aload_n 0, []), (.getfield 19, [4, 2, 2]), (.iload_n 2, []), (.aload_n 0, []), (.getfield 15, [4, 1, 2]), (.aload_n 0, []), (.getfield 9, [4, 0, 2]), (.iload_n 1, []), (.iload_n 2, []), (.invokevirtual 71, [25, 3, 1, 1]), (.ineg, []), (.iastore, []), (.iinc 2 1, []), (.goto (-29), [1001])], none)
noncomputable def bl_X4_tollLostBy_3 : am_B := (34, [(.return_, [])], none)
noncomputable def bk_X4_tollLostBy : List am_B := [bl_X4_tollLostBy_0, bl_X4_tollLostBy_1, bl_X4_tollLostBy_2, bl_X4_tollLostBy_3]
noncomputable def ck_X4_tollLostBy : List (List (Nat × List Nat)) := [[(1, []), (1, [])],
  [(1, []), (2, []), (3, [])],
  [(1, []), (3, [239]), (1, []), (1, []), (3, [238]), (1, []), (3, [237]), (1, []), (1, []), (3, [834, 835, 836, 86]), (1, []), (1, []), (3, []), (3, [])],
  [(1, [])]]
theorem ok_X4_tollLostBy : am_ck 57 bk_X4_tollLostBy ck_X4_tollLostBy = true := am_ckD (by decide +kernel)
theorem ml_X4_tollLostBy : am_ml 57 = 3 := by decide +kernel
theorem pn_X4_tollLostBy : plainName (am_y 57).cls = true := by decide +kernel
/-- PaceBorder$Plan.tollAt(II)I: number 58, loop heads [] -/
noncomputable def bl_X4_tollAt_0 : am_B := (0, [(.iload_n 1, []), (.ifCond .lt 16, [3, 1])], none)
noncomputable def bl_X4_tollAt_1 : am_B := (4, [(.iload_n 1, []), (.bipush 13, []), (.if_icmp .ge 10, [3, 2])], none)
noncomputable def bl_X4_tollAt_2 : am_B := (10, [(.iload_n 2, []), (.invokestatic 74, [12, 1, 0, 1]), (.ifCond .ne 5, [4, 3])], none)
noncomputable def bl_X4_tollAt_3 : am_B := (17, [(.iconst 0, []), (.ireturn, [0])], none)
noncomputable def bl_X4_tollAt_4 : am_B := (19, [(.aload_n 0, []), (.getfield 19, [4, 2, 2]), (.iload_n 1, []), (.iaload, []), (.ireturn, [0])], none)
noncomputable def bk_X4_tollAt : List am_B := [bl_X4_tollAt_0, bl_X4_tollAt_1, bl_X4_tollAt_2, bl_X4_tollAt_3, bl_X4_tollAt_4]
noncomputable def ck_X4_tollAt : List (List (Nat × List Nat)) := [[(1, []), (3, [])],
  [(1, []), (2, []), (3, [])],
  [(1, []), (3, [723, 630, 86]), (3, [])],
  [(1, []), (1, [])],
  [(1, []), (3, [239]), (1, []), (1, []), (1, [])]]
theorem ok_X4_tollAt : am_ck 58 bk_X4_tollAt ck_X4_tollAt = true := am_ckD (by decide +kernel)
theorem ml_X4_tollAt : am_ml 58 = 3 := by decide +kernel
theorem pn_X4_tollAt : plainName (am_y 58).cls = true := by decide +kernel
/-- PaceBorder$Plan.solve(IIZ)V: number 59, loop heads [1, 8, 10] -/
noncomputable def bl_X4_solve_0 : am_B := (0, [(.aload_n 0, []), (.iload_n 3, []), (.putfield 78, [4, 6, 3, 0]), (.iconst 0, []), (.istore 4, [])], some 1001)
noncomputable def bl_X4_solve_1 : am_B := (8, [(.iload 4, []), (.aload_n 0, []), (.getfield 9, [4, 0, 2]), (.getfield 82, [2, 0, 0]), (.if_icmp .gt 33, [1007, 2])], none)
noncomputable def bl_X4_solve_2 : am_B := (20, [(.aload_n 0, []), (.iload_n 1, []), (.iload 4, []), (.iload_n 2, []), (.iconst (-1), []), (.if_icmp .eq 9, [4, 3])], none)
noncomputable def bl_X4_solve_3 : am_B := (29, [(.iload_n 2, []), (.iload 4, []), (.if_icmp .ne 7, [5, 4])], none)
noncomputable def bl_X4_solve_4 : am_B := (35, [(.iconst 0, []), (.goto 5, [6])], none)
noncomputable def bl_X4_solve_5 : am_B := (39, [(.ldc 85, [1000000])], some 6)
noncomputable def bl_X4_solve_6 : am_B := (41, [(.invokevirtual 86, [63, 3, 4, 0]), (.iinc 4 1, []), (.goto (-39), [1001])], none)
noncomputable def bl_X4_solve_7 : am_B := (50, [(.iload_n 1, []), (.iconst 1, []), (.isub, []), (.istore 4, [])], some 1008)
noncomputable def bl_X4_solve_8 : am_B := (55, [(.iload 4, []), (.ifCond .lt 46, [1013, 9])], none)
noncomputable def bl_X4_solve_9 : am_B := (60, [(.iconst 0, []), (.istore 5, [])], some 1010)
noncomputable def bl_X4_solve_10 : am_B := (63, [(.iload 5, []), (.aload_n 0, []), (.getfield 9, [4, 0, 2]), (.getfield 82, [2, 0, 0]), (.if_icmp .gt 25, [1012, 11])], none)
noncomputable def bl_X4_solve_11 : am_B := (75, [(.aload_n 0, []), (.iload 4, []), (.iload 5, []), (.aload_n 0, []), (.iload 4, []), (.iload 5, []), (.invokevirtual 90, [60, 2, 4, 1]), (.invokevirtual 86, [63, 3, 4, 0]), (.iinc 5 1, []), (.goto (-31), [1010])], none)
noncomputable def bl_X4_solve_12 : am_B := (97, [(.iinc 4 (-1), []), (.goto (-45), [1008])], none)
noncomputable def bl_X4_solve_13 : am_B := (103, [(.return_, [])], none)
noncomputable def bk_X4_solve : List am_B := [bl_X4_solve_0, bl_X4_solve_1, bl_X4_solve_2, bl_X4_solve_3, bl_X4_solve_4, bl_X4_solve_5, bl_X4_solve_6, bl_X4_solve_7, bl_X4_solve_8, bl_X4_solve_9, bl_X4_solve_10, bl_X4_solve_11, bl_X4_solve_12, bl_X4_solve_13]
noncomputable def ck_X4_solve : List (List (Nat × List Nat)) := [[(1, []), (1, []), (3, [243]), (1, []), (2, [])],
  [(2, []), (1, []), (3, [237]), (3, [149]), (3, [])],
  [(1, []), (1, []), (2, []), (1, []), (1, []), (3, [])],
  [(1, []), (2, []), (3, [])],
  [(1, []), (3, [])],
  [(2, [753])],
  [(3, [754, 756, 14, 87]), (3, []), (3, [])],
  [(1, []), (1, []), (1, []), (2, [])],
  [(2, []), (3, [])],
  [(1, []), (2, [])],
  [(2, []), (1, []), (3, [237]), (3, [149]), (3, [])],
  [(1, []), (2, []), (2, []), (1, []), (2, []), (2, []), (3, [758, 760, 15, 87]), (3, [754, 756, 14, 87]), (3, []), (3, [])],
  [(3, []), (3, [])],
  [(1, [])]]
theorem ok_X4_solve : am_ck 59 bk_X4_solve ck_X4_solve = true := am_ckD (by decide +kernel)
theorem ml_X4_solve : am_ml 59 = 6 := by decide +kernel
theorem pn_X4_solve : plainName (am_y 59).cls = true := by decide +kernel
/-- PaceBorder$Plan.leastCost(II)I: number 60, loop heads [1] -/
noncomputable def bl_X4_leastCost_0 : am_B := (0, [(.ldc 85, [1000000]), (.istore_n 3, []), (.iconst (-1), []), (.istore 4, [])], some 1001)
noncomputable def bl_X4_leastCost_1 : am_B := (6, [(.iload 4, []), (.iconst 1, []), (.if_icmp .gt 22, [1003, 2])], none)
noncomputable def bl_X4_leastCost_2 : am_B := (12, [(.iload_n 3, []), (.aload_n 0, []), (.iload_n 1, []), (.iload_n 2, []), (.iload 4, []), (.invokevirtual 93, [61, 3, 4, 1]), (.invokestatic 96, [1, 0]), (.istore_n 3, []), (.iinc 4 1, []), (.goto (-22), [1001])], none)
noncomputable def bl_X4_leastCost_3 : am_B := (31, [(.iload_n 3, []), (.ireturn, [0])], none)
noncomputable def bk_X4_leastCost : List am_B := [bl_X4_leastCost_0, bl_X4_leastCost_1, bl_X4_leastCost_2, bl_X4_leastCost_3]
noncomputable def ck_X4_leastCost : List (List (Nat × List Nat)) := [[(2, [753]), (1, []), (1, []), (2, [])],
  [(2, []), (1, []), (3, [])],
  [(1, []), (1, []), (1, []), (1, []), (2, []), (3, [762, 764, 16, 87]), (3, [770, 771, 82, 772]), (1, []), (3, []), (3, [])],
  [(1, []), (1, [])]]
theorem ok_X4_leastCost : am_ck 60 bk_X4_leastCost ck_X4_leastCost = true := am_ckD (by decide +kernel)
theorem ml_X4_leastCost : am_ml 60 = 5 := by decide +kernel
theorem pn_X4_leastCost : plainName (am_y 60).cls = true := by decide +kernel
/-- PaceBorder$Plan.costBy(III)I: number 61, loop heads [] -/
noncomputable def bl_X4_costBy_0 : am_B := (0, [(.aload_n 0, []), (.getfield 15, [4, 1, 2]), (.getfield 49, [1, 0, 0]), (.iload_n 1, []), (.iadd, []), (.istore 4, []), (.aload_n 0, []), (.getfield 9, [4, 0, 2]), (.iload_n 2, []), (.iload_n 3, []), (.iload 4, []), (.invokevirtual 52, [41, 3, 2, 1]), (.istore 5, []), (.aload_n 0, []), (.iload_n 1, []), (.iconst 1, []), (.iadd, []), (.iload_n 2, []), (.iload_n 3, []), (.iadd, []), (.invokevirtual 101, [62, 2, 4, 1]), (.istore 6, []), (.iload 5, []), (.ifCond .lt 10, [2, 1])], none)
noncomputable def bl_X4_costBy_1 : am_B := (41, [(.iload 6, []), (.ldc 85, [1000000]), (.if_icmp .lt 6, [3, 2])], none)
noncomputable def bl_X4_costBy_2 : am_B := (48, [(.ldc 85, [1000000]), (.ireturn, [0])], none)
noncomputable def bl_X4_costBy_3 : am_B := (51, [(.iload 6, []), (.aload_n 0, []), (.getfield 78, [4, 6, 3]), (.ifCond .eq 8, [5, 4])], none)
noncomputable def bl_X4_costBy_4 : am_B := (60, [(.iload 5, []), (.goto 4, [6])], none)
noncomputable def bl_X4_costBy_5 : am_B := (65, [(.iconst 0, [])], some 6)
noncomputable def bl_X4_costBy_6 : am_B := (66, [(.iadd, []), (.aload_n 0, []), (.iload_n 2, []), (.iload_n 3, []), (.iadd, []), (.iload 4, []), (.invokevirtual 58, [58, 2, 4, 1]), (.iadd, []), (.ireturn, [0])], none)
noncomputable def bk_X4_costBy : List am_B := [bl_X4_costBy_0, bl_X4_costBy_1, bl_X4_costBy_2, bl_X4_costBy_3, bl_X4_costBy_4, bl_X4_costBy_5, bl_X4_costBy_6]
noncomputable def ck_X4_costBy : List (List (Nat × List Nat)) := [[(1, []), (3, [238]), (3, [195]), (1, []), (1, []), (2, []), (1, []), (3, [237]), (1, []), (1, []), (2, []), (3, [689, 623, 624, 85]), (2, []), (1, []), (1, []), (1, []), (1, []), (1, []), (1, []), (1, []), (3, [766, 767, 768, 87]), (2, []), (2, []), (3, [])],
  [(2, []), (2, [753]), (3, [])],
  [(2, [753]), (1, [])],
  [(2, []), (1, []), (3, [243]), (3, [])],
  [(2, []), (3, [])],
  [(1, [])],
  [(1, []), (1, []), (1, []), (1, []), (1, []), (2, []), (3, [719, 721, 11, 87]), (1, []), (1, [])]]
theorem ok_X4_costBy : am_ck 61 bk_X4_costBy ck_X4_costBy = true := am_ckD (by decide +kernel)
theorem ml_X4_costBy : am_ml 61 = 7 := by decide +kernel
theorem pn_X4_costBy : plainName (am_y 61).cls = true := by decide +kernel
/-- PaceBorder$Plan.costFrom(II)I: number 62, loop heads [] -/
noncomputable def bl_X4_costFrom_0 : am_B := (0, [(.iload_n 1, []), (.ifCond .lt 19, [4, 1])], none)
noncomputable def bl_X4_costFrom_1 : am_B := (4, [(.iload_n 1, []), (.bipush 20, []), (.if_icmp .gt 13, [4, 2])], none)
noncomputable def bl_X4_costFrom_2 : am_B := (10, [(.iload_n 2, []), (.ifCond .lt 9, [4, 3])], none)
noncomputable def bl_X4_costFrom_3 : am_B := (14, [(.iload_n 2, []), (.bipush 13, []), (.if_icmp .lt 6, [5, 4])], none)
noncomputable def bl_X4_costFrom_4 : am_B := (20, [(.ldc 85, [1000000]), (.ireturn, [0])], none)
noncomputable def bl_X4_costFrom_5 : am_B := (23, [(.aload_n 0, []), (.getfield 23, [4, 3, 2]), (.iload_n 1, []), (.bipush 13, []), (.imul, []), (.iload_n 2, []), (.iadd, []), (.iaload, []), (.ireturn, [0])], none)
noncomputable def bk_X4_costFrom : List am_B := [bl_X4_costFrom_0, bl_X4_costFrom_1, bl_X4_costFrom_2, bl_X4_costFrom_3, bl_X4_costFrom_4, bl_X4_costFrom_5]
noncomputable def ck_X4_costFrom : List (List (Nat × List Nat)) := [[(1, []), (3, [])],
  [(1, []), (2, []), (3, [])],
  [(1, []), (3, [])],
  [(1, []), (2, []), (3, [])],
  [(2, [753]), (1, [])],
  [(1, []), (3, [240]), (1, []), (2, []), (1, []), (1, []), (1, []), (1, []), (1, [])]]
theorem ok_X4_costFrom : am_ck 62 bk_X4_costFrom ck_X4_costFrom = true := am_ckD (by decide +kernel)
theorem ml_X4_costFrom : am_ml 62 = 3 := by decide +kernel
theorem pn_X4_costFrom : plainName (am_y 62).cls = true := by decide +kernel
/-- PaceBorder$Plan.setCost(III)V: number 63, loop heads [] -/
noncomputable def bl_X4_setCost_0 : am_B := (0, [(.iload_n 1, []), (.ifCond .lt 31, [5, 1])], none)
noncomputable def bl_X4_setCost_1 : am_B := (4, [(.iload_n 1, []), (.bipush 20, []), (.if_icmp .gt 25, [5, 2])], none)
noncomputable def bl_X4_setCost_2 : am_B := (10, [(.iload_n 2, []), (.ifCond .lt 21, [5, 3])], none)
noncomputable def bl_X4_setCost_3 : am_B := (14, [(.iload_n 2, []), (.bipush 13, []), (.if_icmp .ge 15, [5, 4])], none)
noncomputable def bl_X4_setCost_4 : am_B := (20, [(.aload_n 0, []), (.getfield 23, [4, 3, 2]), (.iload_n 1, []), (.bipush 13, []), (.imul, []), (.iload_n 2, []), (.iadd, []), (.iload_n 3, []), (.iastore, [])], some 5)
noncomputable def bl_X4_setCost_5 : am_B := (32, [(.return_, [])], none)
noncomputable def bk_X4_setCost : List am_B := [bl_X4_setCost_0, bl_X4_setCost_1, bl_X4_setCost_2, bl_X4_setCost_3, bl_X4_setCost_4, bl_X4_setCost_5]
noncomputable def ck_X4_setCost : List (List (Nat × List Nat)) := [[(1, []), (3, [])],
  [(1, []), (2, []), (3, [])],
  [(1, []), (3, [])],
  [(1, []), (2, []), (3, [])],
  [(1, []), (3, [240]), (1, []), (2, []), (1, []), (1, []), (1, []), (1, []), (1, [])],
  [(1, [])]]
theorem ok_X4_setCost : am_ck 63 bk_X4_setCost ck_X4_setCost = true := am_ckD (by decide +kernel)
theorem ml_X4_setCost : am_ml 63 = 4 := by decide +kernel
theorem pn_X4_setCost : plainName (am_y 63).cls = true := by decide +kernel
/-- PaceBorder$Plan.firstMove(II)I: number 64, loop heads [1] -/
noncomputable def bl_X4_firstMove_0 : am_B := (0, [(.aload_n 0, []), (.iload_n 1, []), (.iload_n 2, []), (.invokevirtual 101, [62, 2, 4, 1]), (.istore_n 3, []), (.iconst (-1), []), (.istore 4, [])], some 1001)
noncomputable def bl_X4_firstMove_1 : am_B := (10, [(.iload 4, []), (.iconst 1, []), (.if_icmp .gt 24, [1005, 2])], none)
noncomputable def bl_X4_firstMove_2 : am_B := (16, [(.aload_n 0, []), (.iload_n 1, []), (.iload_n 2, []), (.iload 4, []), (.invokevirtual 93, [61, 3, 4, 1]), (.iload_n 3, []), (.if_icmp .ne 6, [4, 3])], none)
noncomputable def bl_X4_firstMove_3 : am_B := (28, [(.iload 4, []), (.ireturn, [0])], none)
noncomputable def bl_X4_firstMove_4 : am_B := (31, [(.iinc 4 1, []), (.goto (-24), [1001])], none)
noncomputable def bl_X4_firstMove_5 : am_B := (37, [(.iconst 0, []), (.ireturn, [0])], none)
noncomputable def bk_X4_firstMove : List am_B := [bl_X4_firstMove_0, bl_X4_firstMove_1, bl_X4_firstMove_2, bl_X4_firstMove_3, bl_X4_firstMove_4, bl_X4_firstMove_5]
noncomputable def ck_X4_firstMove : List (List (Nat × List Nat)) := [[(1, []), (1, []), (1, []), (3, [766, 767, 768, 87]), (1, []), (1, []), (2, [])],
  [(2, []), (1, []), (3, [])],
  [(1, []), (1, []), (1, []), (2, []), (3, [762, 764, 16, 87]), (1, []), (3, [])],
  [(2, []), (1, [])],
  [(3, []), (3, [])],
  [(1, []), (1, [])]]
theorem ok_X4_firstMove : am_ck 64 bk_X4_firstMove ck_X4_firstMove = true := am_ckD (by decide +kernel)
theorem ml_X4_firstMove : am_ml 64 = 5 := by decide +kernel
theorem pn_X4_firstMove : plainName (am_y 64).cls = true := by decide +kernel
/-- PaceBorder$Plan.fewestDaysTo(I)I: number 65, loop heads [1] -/
noncomputable def bl_X4_fewestDaysTo_0 : am_B := (0, [(.iconst 1, []), (.aload_n 0, []), (.getfield 15, [4, 1, 2]), (.getfield 39, [1, 1, 0]), (.ishl, []), (.istore_n 2, []), (.iconst 0, []), (.istore_n 3, [])], some 1001)
noncomputable def bl_X4_fewestDaysTo_1 : am_B := (12, [(.iload_n 3, []), (.bipush 20, []), (.if_icmp .gt 34, [1005, 2])], none)
noncomputable def bl_X4_fewestDaysTo_2 : am_B := (18, [(.iload_n 2, []), (.iload_n 1, []), (.ishr, []), (.iconst 1, []), (.iand, []), (.ifCond .eq 5, [4, 3])], none)
noncomputable def bl_X4_fewestDaysTo_3 : am_B := (26, [(.iload_n 3, []), (.ireturn, [0])], none)
noncomputable def bl_X4_fewestDaysTo_4 : am_B := (28, [(.aload_n 0, []), (.iload_n 2, []), (.aload_n 0, []), (.getfield 15, [4, 1, 2]), (.getfield 49, [1, 0, 0]), (.iload_n 3, []), (.iadd, []), (.invokevirtual 104, [67, 2, 4, 1]), (.istore_n 2, []), (.iinc 3 1, []), (.goto (-34), [1001])], none)
noncomputable def bl_X4_fewestDaysTo_5 : am_B := (49, [(.iconst (-1), []), (.ireturn, [0])], none)
noncomputable def bk_X4_fewestDaysTo : List am_B := [bl_X4_fewestDaysTo_0, bl_X4_fewestDaysTo_1, bl_X4_fewestDaysTo_2, bl_X4_fewestDaysTo_3, bl_X4_fewestDaysTo_4, bl_X4_fewestDaysTo_5]
noncomputable def ck_X4_fewestDaysTo : List (List (Nat × List Nat)) := [[(1, []), (1, []), (3, [238]), (3, [200]), (1, []), (1, []), (1, []), (1, [])],
  [(1, []), (2, []), (3, [])],
  [(1, []), (1, []), (1, []), (1, []), (1, []), (3, [])],
  [(1, []), (1, [])],
  [(1, []), (1, []), (1, []), (3, [238]), (3, [195]), (1, []), (1, []), (3, [736, 738, 12, 87]), (1, []), (3, []), (3, [])],
  [(1, []), (1, [])]]
theorem ok_X4_fewestDaysTo : am_ck 65 bk_X4_fewestDaysTo ck_X4_fewestDaysTo = true := am_ckD (by decide +kernel)
theorem ml_X4_fewestDaysTo : am_ml 65 = 4 := by decide +kernel
theorem pn_X4_fewestDaysTo : plainName (am_y 65).cls = true := by decide +kernel
/-- PaceBorder$Plan.reachIn(I)I: number 66, loop heads [1] -/
noncomputable def bl_X4_reachIn_0 : am_B := (0, [(.iconst 1, []), (.aload_n 0, []), (.getfield 15, [4, 1, 2]), (.getfield 39, [1, 1, 0]), (.ishl, []), (.istore_n 2, []), (.iconst 0, []), (.istore_n 3, [])], some 1001)
noncomputable def bl_X4_reachIn_1 : am_B := (12, [(.iload_n 3, []), (.iload_n 1, []), (.if_icmp .ge 24, [1003, 2])], none)
noncomputable def bl_X4_reachIn_2 : am_B := (17, [(.aload_n 0, []), (.iload_n 2, []), (.aload_n 0, []), (.getfield 15, [4, 1, 2]), (.getfield 49, [1, 0, 0]), (.iload_n 3, []), (.iadd, []), (.invokevirtual 104, [67, 2, 4, 1]), (.istore_n 2, []), (.iinc 3 1, []), (.goto (-23), [1001])], none)
noncomputable def bl_X4_reachIn_3 : am_B := (38, [(.iload_n 2, []), (.ireturn, [0])], none)
noncomputable def bk_X4_reachIn : List am_B := [bl_X4_reachIn_0, bl_X4_reachIn_1, bl_X4_reachIn_2, bl_X4_reachIn_3]
noncomputable def ck_X4_reachIn : List (List (Nat × List Nat)) := [[(1, []), (1, []), (3, [238]), (3, [200]), (1, []), (1, []), (1, []), (1, [])],
  [(1, []), (1, []), (3, [])],
  [(1, []), (1, []), (1, []), (3, [238]), (3, [195]), (1, []), (1, []), (3, [736, 738, 12, 87]), (1, []), (3, []), (3, [])],
  [(1, []), (1, [])]]
theorem ok_X4_reachIn : am_ck 66 bk_X4_reachIn ck_X4_reachIn = true := am_ckD (by decide +kernel)
theorem ml_X4_reachIn : am_ml 66 = 4 := by decide +kernel
theorem pn_X4_reachIn : plainName (am_y 66).cls = true := by decide +kernel
/-- PaceBorder$Plan.spread(II)I: number 67, loop heads [1] -/
noncomputable def bl_X4_spread_0 : am_B := (0, [(.iconst 0, []), (.istore_n 3, []), (.iconst 0, []), (.istore 4, [])], some 1001)
noncomputable def bl_X4_spread_1 : am_B := (5, [(.iload 4, []), (.aload_n 0, []), (.getfield 9, [4, 0, 2]), (.getfield 82, [2, 0, 0]), (.if_icmp .gt 28, [1005, 2])], none)
noncomputable def bl_X4_spread_2 : am_B := (17, [(.iload_n 1, []), (.iload 4, []), (.ishr, []), (.iconst 1, []), (.iand, []), (.ifCond .eq 13, [4, 3])], none)
noncomputable def bl_X4_spread_3 : am_B := (26, [(.iload_n 3, []), (.aload_n 0, []), (.iload 4, []), (.iload_n 2, []), (.invokevirtual 107, [68, 2, 4, 1]), (.ior, []), (.istore_n 3, [])], some 4)
noncomputable def bl_X4_spread_4 : am_B := (36, [(.iinc 4 1, []), (.goto (-34), [1001])], none)
noncomputable def bl_X4_spread_5 : am_B := (42, [(.iload_n 3, []), (.ireturn, [0])], none)
noncomputable def bk_X4_spread : List am_B := [bl_X4_spread_0, bl_X4_spread_1, bl_X4_spread_2, bl_X4_spread_3, bl_X4_spread_4, bl_X4_spread_5]
noncomputable def ck_X4_spread : List (List (Nat × List Nat)) := [[(1, []), (1, []), (1, []), (2, [])],
  [(2, []), (1, []), (3, [237]), (3, [149]), (3, [])],
  [(1, []), (2, []), (1, []), (1, []), (1, []), (3, [])],
  [(1, []), (1, []), (2, []), (1, []), (3, [740, 742, 13, 87]), (1, []), (1, [])],
  [(3, []), (3, [])],
  [(1, []), (1, [])]]
theorem ok_X4_spread : am_ck 67 bk_X4_spread ck_X4_spread = true := am_ckD (by decide +kernel)
theorem ml_X4_spread : am_ml 67 = 5 := by decide +kernel
theorem pn_X4_spread : plainName (am_y 67).cls = true := by decide +kernel
/-- PaceBorder$Plan.placesBehind(II)I: number 68, loop heads [1] -/
noncomputable def bl_X4_placesBehind_0 : am_B := (0, [(.iconst 0, []), (.istore_n 3, []), (.iconst (-1), []), (.istore 4, [])], some 1001)
noncomputable def bl_X4_placesBehind_1 : am_B := (5, [(.iload 4, []), (.iconst 1, []), (.if_icmp .gt 32, [1005, 2])], none)
noncomputable def bl_X4_placesBehind_2 : am_B := (11, [(.aload_n 0, []), (.getfield 9, [4, 0, 2]), (.iload_n 1, []), (.iload 4, []), (.iload_n 2, []), (.invokevirtual 52, [41, 3, 2, 1]), (.ifCond .lt 12, [4, 3])], none)
noncomputable def bl_X4_placesBehind_3 : am_B := (25, [(.iload_n 3, []), (.iconst 1, []), (.iload_n 1, []), (.iload 4, []), (.iadd, []), (.ishl, []), (.ior, []), (.istore_n 3, [])], some 4)
noncomputable def bl_X4_placesBehind_4 : am_B := (34, [(.iinc 4 1, []), (.goto (-32), [1001])], none)
noncomputable def bl_X4_placesBehind_5 : am_B := (40, [(.iload_n 3, []), (.ireturn, [0])], none)
noncomputable def bk_X4_placesBehind : List am_B := [bl_X4_placesBehind_0, bl_X4_placesBehind_1, bl_X4_placesBehind_2, bl_X4_placesBehind_3, bl_X4_placesBehind_4, bl_X4_placesBehind_5]
noncomputable def ck_X4_placesBehind : List (List (Nat × List Nat)) := [[(1, []), (1, []), (1, []), (2, [])],
  [(2, []), (1, []), (3, [])],
  [(1, []), (3, [237]), (1, []), (2, []), (1, []), (3, [689, 623, 624, 85]), (3, [])],
  [(1, []), (1, []), (1, []), (2, []), (1, []), (1, []), (1, []), (1, [])],
  [(3, []), (3, [])],
  [(1, []), (1, [])]]
theorem ok_X4_placesBehind : am_ck 68 bk_X4_placesBehind ck_X4_placesBehind = true := am_ckD (by decide +kernel)
theorem ml_X4_placesBehind : am_ml 68 = 5 := by decide +kernel
theorem pn_X4_placesBehind : plainName (am_y 68).cls = true := by decide +kernel
/-- PaceBorder$Plan.waysTo(II)J: number 69, loop heads [4, 6] -/
noncomputable def bl_X4_waysTo_0 : am_B := (0, [(.aload_n 0, []), (.getfield 26, [4, 4, 2]), (.lconst 0, []), (.invokestatic 110, [276, 2, 0, 0]), (.iload_n 1, []), (.invokestatic 113, [71, 1, 0, 1]), (.ifCond .eq 16, [2, 1])], none)
noncomputable def bl_X4_waysTo_1 : am_B := (15, [(.aload_n 0, []), (.getfield 15, [4, 1, 2]), (.getfield 39, [1, 1, 0]), (.invokestatic 113, [71, 1, 0, 1]), (.ifCond .ne 5, [3, 2])], none)
noncomputable def bl_X4_waysTo_2 : am_B := (28, [(.lconst 0, []), (.lreturn, [])], none)
noncomputable def bl_X4_waysTo_3 : am_B := (30, [(.aload_n 0, []), (.getfield 26, [4, 4, 2]), (.aload_n 0, []), (.getfield 15, [4, 1, 2]), (.getfield 39, [1, 1, 0]), (.lconst 1, []), (.lastore, []), (.iconst 0, []), (.istore_n 3, [])], some 1004)
noncomputable def bl_X4_waysTo_4 : am_B := (45, [(.iload_n 3, []), (.iload_n 2, []), (.if_icmp .ge 68, [1009, 5])], none)
noncomputable def bl_X4_waysTo_5 : am_B := (50, [(.aload_n 0, []), (.getfield 30, [4, 5, 2]), (.lconst 0, []), (.invokestatic 110, [276, 2, 0, 0]), (.iconst 0, []), (.istore 4, [])], some 1006)
noncomputable def bl_X4_waysTo_6 : am_B := (61, [(.iload 4, []), (.aload_n 0, []), (.getfield 9, [4, 0, 2]), (.getfield 82, [2, 0, 0]), (.if_icmp .gt 24, [1008, 7])], none)
noncomputable def bl_X4_waysTo_7 : am_B := (73, [(.aload_n 0, []), (.iload 4, []), (.aload_n 0, []), (.getfield 15, [4, 1, 2]), (.getfield 49, [1, 0, 0]), (.iload_n 3, []), (.iadd, []), (.invokevirtual 116, [70, 2, 4, 0]), (.iinc 4 1, []), (.goto (-30), [1006])], none)
noncomputable def bl_X4_waysTo_8 : am_B := (94, [(.aload_n 0, []), (.getfield 30, [4, 5, 2]), (.iconst 0, []), (.aload_n 0, []), (.getfield 26, [4, 4, 2]), (.iconst 0, []), (.bipush 13, []), (.invokestatic 120, [1000000]), (.iinc 3 1, []), (.goto (-67), [1004])], none)
noncomputable def bl_X4_waysTo_9 : am_B := (115, [(.aload_n 0, []), (.getfield 26, [4, 4, 2]), (.iload_n 1, []), (.laload, []), (.lreturn, [])], none)
noncomputable def bk_X4_waysTo : List am_B := [bl_X4_waysTo_0, bl_X4_waysTo_1, bl_X4_waysTo_2, bl_X4_waysTo_3, bl_X4_waysTo_4, bl_X4_waysTo_5, bl_X4_waysTo_6, bl_X4_waysTo_7, bl_X4_waysTo_8, bl_X4_waysTo_9]
noncomputable def ck_X4_waysTo : List (List (Nat × List Nat)) := [[(1, []), (3, [241]), (1, []), (3, [798, 799, 83]), (1, []), (3, [801, 802, 87]), (3, [])],
  [(1, []), (3, [238]), (3, [200]), (3, [801, 802, 87]), (3, [])],
  [(1, []), (1, [])],
  [(1, []), (3, [241]), (1, []), (3, [238]), (3, [200]), (1, []), (1, []), (1, []), (1, [])],
  [(1, []), (1, []), (3, [])],
  [(1, []), (3, [242]), (1, []), (3, [798, 799, 83]), (1, []), (2, [])],
  [(2, []), (1, []), (3, [237]), (3, [149]), (3, [])],
  [(1, []), (2, []), (1, []), (3, [238]), (3, [195]), (1, []), (1, []), (3, [804, 806, 18, 87]), (3, []), (3, [])],
  [(1, []), (3, [242]), (1, []), (1, []), (3, [241]), (1, []), (2, []), (3, [808, 447, 446, 92]), (3, []), (3, [])],
  [(1, []), (3, [241]), (1, []), (1, []), (1, [])]]
theorem ok_X4_waysTo : am_ck 69 bk_X4_waysTo ck_X4_waysTo = true := am_ckD (by decide +kernel)
theorem ml_X4_waysTo : am_ml 69 = 5 := by decide +kernel
theorem pn_X4_waysTo : plainName (am_y 69).cls = true := by decide +kernel
/-- PaceBorder$Plan.passOn(II)V: number 70, loop heads [1] -/
noncomputable def bl_X4_passOn_0 : am_B := (0, [(.aload_n 0, []), (.iload_n 1, []), (.iload_n 2, []), (.invokevirtual 107, [68, 2, 4, 1]), (.istore_n 3, []), (.iconst 0, []), (.istore 4, [])], some 1001)
noncomputable def bl_X4_passOn_1 : am_B := (10, [(.iload 4, []), (.aload_n 0, []), (.getfield 9, [4, 0, 2]), (.getfield 82, [2, 0, 0]), (.if_icmp .gt 49, [1007, 2])], none)
noncomputable def bl_X4_passOn_2 : am_B := (22, [(.iload_n 1, []), (.invokestatic 113, [71, 1, 0, 1]), (.ifCond .eq 36, [6, 3])], none)
noncomputable def bl_X4_passOn_3 : am_B := (29, [(.iload 4, []), (.invokestatic 113, [71, 1, 0, 1]), (.ifCond .eq 28, [6, 4])], none)
noncomputable def bl_X4_passOn_4 : am_B := (37, [(.iload_n 3, []), (.iload 4, []), (.ishr, []), (.iconst 1, []), (.iand, []), (.ifCond .eq 19, [6, 5])], none)
noncomputable def bl_X4_passOn_5 : am_B := (46, [(.aload_n 0, []), (.getfield 30, [4, 5, 2]), (.iload 4, []), (.dup2, []), (.laload, []), (.aload_n 0, []), (.getfield 26, [4, 4, 2]), (.iload_n 1, []), (.laload, []), (.ladd, []), (.lastore, [])], some 6)
noncomputable def bl_X4_passOn_6 : am_B := (62, [(.iinc 4 1, []), (.goto (-55), [1001])], none)
noncomputable def bl_X4_passOn_7 : am_B := (68, [(.return_, [])], none)
noncomputable def bk_X4_passOn : List am_B := [bl_X4_passOn_0, bl_X4_passOn_1, bl_X4_passOn_2, bl_X4_passOn_3, bl_X4_passOn_4, bl_X4_passOn_5, bl_X4_passOn_6, bl_X4_passOn_7]
noncomputable def ck_X4_passOn : List (List (Nat × List Nat)) := [[(1, []), (1, []), (1, []), (3, [740, 742, 13, 87]), (1, []), (1, []), (2, [])],
  [(2, []), (1, []), (3, [237]), (3, [149]), (3, [])],
  [(1, []), (3, [801, 802, 87]), (3, [])],
  [(2, []), (3, [801, 802, 87]), (3, [])],
  [(1, []), (2, []), (1, []), (1, []), (1, []), (3, [])],
  [(1, []), (3, [242]), (2, []), (1, []), (1, []), (1, []), (3, [241]), (1, []), (1, []), (1, []), (1, [])],
  [(3, []), (3, [])],
  [(1, [])]]
theorem ok_X4_passOn : am_ck 70 bk_X4_passOn ck_X4_passOn = true := am_ckD (by decide +kernel)
theorem ml_X4_passOn : am_ml 70 = 5 := by decide +kernel
theorem pn_X4_passOn : plainName (am_y 70).cls = true := by decide +kernel
/-- PaceBorder$Plan.isSlot(I)Z: number 71, loop heads [] -/
noncomputable def bl_X4_isSlot_0 : am_B := (0, [(.iload_n 0, []), (.ifCond .lt 13, [3, 1])], none)
noncomputable def bl_X4_isSlot_1 : am_B := (4, [(.iload_n 0, []), (.bipush 13, []), (.if_icmp .ge 7, [3, 2])], none)
noncomputable def bl_X4_isSlot_2 : am_B := (10, [(.iconst 1, []), (.goto 4, [4])], none)
noncomputable def bl_X4_isSlot_3 : am_B := (14, [(.iconst 0, [])], some 4)
noncomputable def bl_X4_isSlot_4 : am_B := (15, [(.ireturn, [1])], none)
noncomputable def bk_X4_isSlot : List am_B := [bl_X4_isSlot_0, bl_X4_isSlot_1, bl_X4_isSlot_2, bl_X4_isSlot_3, bl_X4_isSlot_4]
noncomputable def ck_X4_isSlot : List (List (Nat × List Nat)) := [[(1, []), (3, [])],
  [(1, []), (2, []), (3, [])],
  [(1, []), (3, [])],
  [(1, [])],
  [(1, [])]]
theorem ok_X4_isSlot : am_ck 71 bk_X4_isSlot ck_X4_isSlot = true := am_ckD (by decide +kernel)
theorem ml_X4_isSlot : am_ml 71 = 1 := by decide +kernel
theorem pn_X4_isSlot : plainName (am_y 71).cls = true := by decide +kernel
end
section
/-- PaceBorder$Chance.<init>(LPaceBorder$Ground;LPaceBorder$Days;)V: number 0, loop heads [] -/
noncomputable def bl_X0_init_0 : am_B := (0, [(.aload_n 0, []), (.invokespecial 3, [1000000]), (.aload_n 0, []), (.aload_n 1, []), (.putfield 9, [0, 0, 2, 1]), (.aload_n 0, []), (.aload_n 2, []), (.putfield 15, [0, 1, 2, 1]), (.aload_n 0, []), (.bipush 13, []), (.newarray .long, [11]), (.putfield 19, [0, 2, 2, 1]), (.aload_n 0, []), (.bipush 13, []), (.newarray .long, [11]), (.putfield 23, [0, 3, 2, 1]), (.return_, [])], none)
noncomputable def bk_X0_init : List am_B := [bl_X0_init_0]
noncomputable def ck_X0_init : List (List (Nat × List Nat)) := [[(1, []), (3, [265, 100, 101]), (1, []), (1, []), (3, [266]), (1, []), (1, []), (3, [267]), (1, []), (2, []), (2, []), (3, [268]), (1, []), (2, []), (2, []), (3, [269]), (1, [])]]
theorem ok_X0_init : am_ck 0 bk_X0_init ck_X0_init = true := am_ckD (by decide +kernel)
theorem ml_X0_init : am_ml 0 = 3 := by decide +kernel
theorem pn_X0_init : plainName (am_y 0).cls = true := by decide +kernel
/-- PaceBorder$Chance.pairsIn(I)J: number 1, loop heads [1] -/
noncomputable def bl_X0_pairsIn_0 : am_B := (0, [(.lconst 1, []), (.lstore_n 1, []), (.iconst 0, []), (.istore_n 3, [])], some 1001)
noncomputable def bl_X0_pairsIn_1 : am_B := (4, [(.iload_n 3, []), (.iload_n 0, []), (.if_icmp .ge 15, [1003, 2])], none)
noncomputable def bl_X0_pairsIn_2 : am_B := (9, [(.lload_n 1, []), (.ldc2_w 26, [16]), (.lmul, []), (.lstore_n 1, []), (.iinc 3 1, []), (.goto (-14), [1001])], none)
noncomputable def bl_X0_pairsIn_3 : am_B := (21, [(.lload_n 1, []), (.lreturn, [])], none)
noncomputable def bk_X0_pairsIn : List am_B := [bl_X0_pairsIn_0, bl_X0_pairsIn_1, bl_X0_pairsIn_2, bl_X0_pairsIn_3]
noncomputable def ck_X0_pairsIn : List (List (Nat × List Nat)) := [[(1, []), (1, []), (1, []), (1, [])],
  [(1, []), (1, []), (3, [])],
  [(1, []), (3, [880]), (1, []), (1, []), (3, []), (3, [])],
  [(1, []), (1, [])]]
theorem ok_X0_pairsIn : am_ck 1 bk_X0_pairsIn ck_X0_pairsIn = true := am_ckD (by decide +kernel)
theorem ml_X0_pairsIn : am_ml 1 = 4 := by decide +kernel
theorem pn_X0_pairsIn : plainName (am_y 1).cls = true := by decide +kernel
/-- PaceBorder$Chance.pairsEndingAt(II)J: number 2, loop heads [1] -/
noncomputable def bl_X0_pairsEndingAt_0 : am_B := (0, [(.aload_n 0, []), (.invokevirtual 28, [6, 0, 0, 0]), (.iconst 0, []), (.istore_n 3, [])], some 1001)
noncomputable def bl_X0_pairsEndingAt_1 : am_B := (6, [(.iload_n 3, []), (.iload_n 2, []), (.if_icmp .ge 23, [1003, 2])], none)
noncomputable def bl_X0_pairsEndingAt_2 : am_B := (11, [(.aload_n 0, []), (.aload_n 0, []), (.getfield 15, [0, 1, 2]), (.getfield 31, [1, 0, 0]), (.iload_n 3, []), (.iadd, []), (.iconst (-1), []), (.invokevirtual 37, [8, 2, 0, 0]), (.iinc 3 1, []), (.goto (-22), [1001])], none)
noncomputable def bl_X0_pairsEndingAt_3 : am_B := (31, [(.aload_n 0, []), (.iload_n 1, []), (.invokevirtual 41, [7, 1, 0, 2]), (.lreturn, [])], none)
noncomputable def bk_X0_pairsEndingAt : List am_B := [bl_X0_pairsEndingAt_0, bl_X0_pairsEndingAt_1, bl_X0_pairsEndingAt_2, bl_X0_pairsEndingAt_3]
noncomputable def ck_X0_pairsEndingAt : List (List (Nat × List Nat)) := [[(1, []), (3, [854, 856, 20, 88]), (1, []), (1, [])],
  [(1, []), (1, []), (3, [])],
  [(1, []), (1, []), (3, [267]), (3, [197]), (1, []), (1, []), (1, []), (3, [859, 861, 21, 88]), (3, []), (3, [])],
  [(1, []), (1, []), (3, [868, 870, 23, 88]), (1, [])]]
theorem ok_X0_pairsEndingAt : am_ck 2 bk_X0_pairsEndingAt ck_X0_pairsEndingAt = true := am_ckD (by decide +kernel)
theorem ml_X0_pairsEndingAt : am_ml 2 = 4 := by decide +kernel
theorem pn_X0_pairsEndingAt : plainName (am_y 2).cls = true := by decide +kernel
/-- PaceBorder$Chance.pairsMeeting(II)J: number 3, loop heads [1] -/
noncomputable def bl_X0_pairsMeeting_0 : am_B := (0, [(.aload_n 0, []), (.invokevirtual 28, [6, 0, 0, 0]), (.iconst 0, []), (.istore_n 3, [])], some 1001)
noncomputable def bl_X0_pairsMeeting_1 : am_B := (6, [(.iload_n 3, []), (.iload_n 2, []), (.if_icmp .ge 23, [1003, 2])], none)
noncomputable def bl_X0_pairsMeeting_2 : am_B := (11, [(.aload_n 0, []), (.aload_n 0, []), (.getfield 15, [0, 1, 2]), (.getfield 31, [1, 0, 0]), (.iload_n 3, []), (.iadd, []), (.iload_n 1, []), (.invokevirtual 37, [8, 2, 0, 0]), (.iinc 3 1, []), (.goto (-22), [1001])], none)
noncomputable def bl_X0_pairsMeeting_3 : am_B := (31, [(.aload_n 0, []), (.iload_n 1, []), (.invokevirtual 41, [7, 1, 0, 2]), (.lreturn, [])], none)
noncomputable def bk_X0_pairsMeeting : List am_B := [bl_X0_pairsMeeting_0, bl_X0_pairsMeeting_1, bl_X0_pairsMeeting_2, bl_X0_pairsMeeting_3]
noncomputable def ck_X0_pairsMeeting : List (List (Nat × List Nat)) := [[(1, []), (3, [854, 856, 20, 88]), (1, []), (1, [])],
  [(1, []), (1, []), (3, [])],
  [(1, []), (1, []), (3, [267]), (3, [197]), (1, []), (1, []), (1, []), (3, [859, 861, 21, 88]), (3, []), (3, [])],
  [(1, []), (1, []), (3, [868, 870, 23, 88]), (1, [])]]
theorem ok_X0_pairsMeeting : am_ck 3 bk_X0_pairsMeeting ck_X0_pairsMeeting = true := am_ckD (by decide +kernel)
theorem ml_X0_pairsMeeting : am_ml 3 = 4 := by decide +kernel
theorem pn_X0_pairsMeeting : plainName (am_y 3).cls = true := by decide +kernel
/-- PaceBorder$Chance.duesOf(II)J: number 4, loop heads [1] -/
noncomputable def bl_X0_duesOf_0 : am_B := (0, [(.aload_n 0, []), (.invokevirtual 28, [6, 0, 0, 0]), (.lconst 0, []), (.lstore_n 3, []), (.iconst 0, []), (.istore 5, [])], some 1001)
noncomputable def bl_X0_duesOf_1 : am_B := (9, [(.iload 5, []), (.iload_n 2, []), (.if_icmp .ge 54, [1005, 2])], none)
noncomputable def bl_X0_duesOf_2 : am_B := (15, [(.aload_n 0, []), (.aload_n 0, []), (.getfield 15, [0, 1, 2]), (.getfield 31, [1, 0, 0]), (.iload 5, []), (.iadd, []), (.iconst (-1), []), (.invokevirtual 37, [8, 2, 0, 0]), (.lload_n 3, []), (.ldc2_w 26, [16]), (.lmul, []), (.lstore_n 3, []), (.aload_n 0, []), (.getfield 15, [0, 1, 2]), (.getfield 31, [1, 0, 0]), (.iload 5, []), (.iadd, []), (.invokestatic 45, [12, 1, 0, 1]), (.ifCond .eq 11, [4, 3])], none)
noncomputable def bl_X0_duesOf_3 : am_B := (52, [(.lload_n 3, []), (.aload_n 0, []), (.iload_n 1, []), (.invokevirtual 49, [5, 1, 0, 2]), (.ladd, []), (.lstore_n 3, [])], some 4)
noncomputable def bl_X0_duesOf_4 : am_B := (60, [(.iinc 5 1, []), (.goto (-54), [1001])], none)
noncomputable def bl_X0_duesOf_5 : am_B := (66, [(.lload_n 3, []), (.lreturn, [])], none)
noncomputable def bk_X0_duesOf : List am_B := [bl_X0_duesOf_0, bl_X0_duesOf_1, bl_X0_duesOf_2, bl_X0_duesOf_3, bl_X0_duesOf_4, bl_X0_duesOf_5]
noncomputable def ck_X0_duesOf : List (List (Nat × List Nat)) := [[(1, []), (3, [854, 856, 20, 88]), (1, []), (1, []), (1, []), (2, [])],
  [(2, []), (1, []), (3, [])],
  [(1, []), (1, []), (3, [267]), (3, [197]), (2, []), (1, []), (1, []), (3, [859, 861, 21, 88]), (1, []), (3, [880]), (1, []), (1, []), (1, []), (3, [267]), (3, [197]), (2, []), (1, []), (3, [897, 630, 86]), (3, [])],
  [(1, []), (1, []), (1, []), (3, [898, 900, 25, 88]), (1, []), (1, [])],
  [(3, []), (3, [])],
  [(1, []), (1, [])]]
theorem ok_X0_duesOf : am_ck 4 bk_X0_duesOf ck_X0_duesOf = true := am_ckD (by decide +kernel)
theorem ml_X0_duesOf : am_ml 4 = 6 := by decide +kernel
theorem pn_X0_duesOf : plainName (am_y 4).cls = true := by decide +kernel
/-- PaceBorder$Chance.duesNow(I)J: number 5, loop heads [1] -/
noncomputable def bl_X0_duesNow_0 : am_B := (0, [(.lconst 0, []), (.lstore_n 2, []), (.iconst 0, []), (.istore 4, [])], some 1001)
noncomputable def bl_X0_duesNow_1 : am_B := (5, [(.iload 4, []), (.aload_n 0, []), (.getfield 9, [0, 0, 2]), (.getfield 52, [2, 0, 0]), (.if_icmp .gt 34, [1003, 2])], none)
noncomputable def bl_X0_duesNow_2 : am_B := (17, [(.lload_n 2, []), (.aload_n 0, []), (.iload 4, []), (.invokevirtual 41, [7, 1, 0, 2]), (.aload_n 0, []), (.getfield 15, [0, 1, 2]), (.aload_n 0, []), (.getfield 9, [0, 0, 2]), (.iload_n 1, []), (.iload 4, []), (.invokevirtual 57, [24, 3, 1, 1]), (.i2l, []), (.lmul, []), (.ladd, []), (.lstore_n 2, []), (.iinc 4 1, []), (.goto (-40), [1001])], none)
noncomputable def bl_X0_duesNow_3 : am_B := (48, [(.lload_n 2, []), (.lreturn, [])], none)
noncomputable def bk_X0_duesNow : List am_B := [bl_X0_duesNow_0, bl_X0_duesNow_1, bl_X0_duesNow_2, bl_X0_duesNow_3]
noncomputable def ck_X0_duesNow : List (List (Nat × List Nat)) := [[(1, []), (1, []), (1, []), (2, [])],
  [(2, []), (1, []), (3, [266]), (3, [147]), (3, [])],
  [(1, []), (1, []), (2, []), (3, [868, 870, 23, 88]), (1, []), (3, [267]), (1, []), (3, [266]), (1, []), (2, []), (3, [902, 578, 579, 86]), (1, []), (1, []), (1, []), (1, []), (3, []), (3, [])],
  [(1, []), (1, [])]]
theorem ok_X0_duesNow : am_ck 5 bk_X0_duesNow ck_X0_duesNow = true := am_ckD (by decide +kernel)
theorem ml_X0_duesNow : am_ml 5 = 5 := by decide +kernel
theorem pn_X0_duesNow : plainName (am_y 5).cls = true := by decide +kernel
/-- PaceBorder$Chance.begin()V: number 6, loop heads [] -/
noncomputable def bl_X0_begin_0 : am_B := (0, [(.aload_n 0, []), (.getfield 19, [0, 2, 2]), (.lconst 0, []), (.invokestatic 61, [276, 2, 0, 0]), (.aload_n 0, []), (.getfield 15, [0, 1, 2]), (.getfield 67, [1, 1, 0]), (.ifCond .lt 28, [3, 1])], none)
noncomputable def bl_X0_begin_1 : am_B := (18, [(.aload_n 0, []), (.getfield 15, [0, 1, 2]), (.getfield 67, [1, 1, 0]), (.bipush 13, []), (.if_icmp .ge 16, [3, 2])], none)
noncomputable def bl_X0_begin_2 : am_B := (30, [(.aload_n 0, []), (.getfield 19, [0, 2, 2]), (.aload_n 0, []), (.getfield 15, [0, 1, 2]), (.getfield 67, [1, 1, 0]), (.lconst 1, []), (.lastore, [])], some 3)
noncomputable def bl_X0_begin_3 : am_B := (43, [(.return_, [])], none)
noncomputable def bk_X0_begin : List am_B := [bl_X0_begin_0, bl_X0_begin_1, bl_X0_begin_2, bl_X0_begin_3]
noncomputable def ck_X0_begin : List (List (Nat × List Nat)) := [[(1, []), (3, [268]), (1, []), (3, [858, 799, 83]), (1, []), (3, [267]), (3, [203]), (3, [])],
  [(1, []), (3, [267]), (3, [203]), (2, []), (3, [])],
  [(1, []), (3, [268]), (1, []), (3, [267]), (3, [203]), (1, []), (1, [])],
  [(1, [])]]
theorem ok_X0_begin : am_ck 6 bk_X0_begin ck_X0_begin = true := am_ckD (by decide +kernel)
theorem ml_X0_begin : am_ml 6 = 1 := by decide +kernel
theorem pn_X0_begin : plainName (am_y 6).cls = true := by decide +kernel
/-- PaceBorder$Chance.pairsAt(I)J: number 7, loop heads [] -/
noncomputable def bl_X0_pairsAt_0 : am_B := (0, [(.iload_n 1, []), (.ifCond .lt 18, [3, 1])], none)
noncomputable def bl_X0_pairsAt_1 : am_B := (4, [(.iload_n 1, []), (.bipush 13, []), (.if_icmp .ge 12, [3, 2])], none)
noncomputable def bl_X0_pairsAt_2 : am_B := (10, [(.aload_n 0, []), (.getfield 19, [0, 2, 2]), (.iload_n 1, []), (.laload, []), (.goto 4, [4])], none)
noncomputable def bl_X0_pairsAt_3 : am_B := (19, [(.lconst 0, [])], some 4)
noncomputable def bl_X0_pairsAt_4 : am_B := (20, [(.lreturn, [])], none)
noncomputable def bk_X0_pairsAt : List am_B := [bl_X0_pairsAt_0, bl_X0_pairsAt_1, bl_X0_pairsAt_2, bl_X0_pairsAt_3, bl_X0_pairsAt_4]
noncomputable def ck_X0_pairsAt : List (List (Nat × List Nat)) := [[(1, []), (3, [])],
  [(1, []), (2, []), (3, [])],
  [(1, []), (3, [268]), (1, []), (1, []), (3, [])],
  [(1, [])],
  [(1, [])]]
theorem ok_X0_pairsAt : am_ck 7 bk_X0_pairsAt ck_X0_pairsAt = true := am_ckD (by decide +kernel)
theorem ml_X0_pairsAt : am_ml 7 = 2 := by decide +kernel
theorem pn_X0_pairsAt : plainName (am_y 7).cls = true := by decide +kernel
/-- PaceBorder$Chance.goOn(II)V: number 8, loop heads [1] -/
noncomputable def bl_X0_goOn_0 : am_B := (0, [(.aload_n 0, []), (.getfield 23, [0, 3, 2]), (.lconst 0, []), (.invokestatic 61, [276, 2, 0, 0]), (.iconst 0, []), (.istore_n 3, [])], some 1001)
noncomputable def bl_X0_goOn_1 : am_B := (10, [(.iload_n 3, []), (.aload_n 0, []), (.getfield 9, [0, 0, 2]), (.getfield 52, [2, 0, 0]), (.if_icmp .gt 97, [1009, 2])], none)
noncomputable def bl_X0_goOn_2 : am_B := (21, [(.iload_n 3, []), (.iload_n 2, []), (.if_icmp .ne 7, [4, 3])], none)
noncomputable def bl_X0_goOn_3 : am_B := (26, [(.iconst 0, []), (.goto 10, [5])], none)
noncomputable def bl_X0_goOn_4 : am_B := (30, [(.aload_n 0, []), (.iload_n 3, []), (.iconst (-1), []), (.iload_n 1, []), (.invokevirtual 70, [10, 3, 0, 1])], some 5)
noncomputable def bl_X0_goOn_5 : am_B := (37, [(.istore 4, []), (.iload_n 3, []), (.iload_n 2, []), (.if_icmp .ne 7, [7, 6])], none)
noncomputable def bl_X0_goOn_6 : am_B := (44, [(.iconst 0, []), (.goto 10, [8])], none)
noncomputable def bl_X0_goOn_7 : am_B := (48, [(.aload_n 0, []), (.iload_n 3, []), (.iconst 1, []), (.iload_n 1, []), (.invokevirtual 70, [10, 3, 0, 1])], some 8)
noncomputable def bl_X0_goOn_8 : am_B := (55, [(.istore 5, []), (.aload_n 0, []), (.iload_n 3, []), (.iconst 1, []), (.isub, []), (.iload 4, []), (.i2l, []), (.aload_n 0, []), (.iload_n 3, []), (.invokevirtual 41, [7, 1, 0, 2]), (.lmul, []), (.invokevirtual 74, [9, 2, 0, 0]), (.aload_n 0, []), (.iload_n 3, []), (.bipush 16, []), (.iload 4, []), (.isub, []), (.iload 5, []), (.isub, []), (.i2l, []), (.aload_n 0, []), (.iload_n 3, []), (.invokevirtual 41, [7, 1, 0, 2]), (.lmul, []), (.invokevirtual 74, [9, 2, 0, 0]), (.aload_n 0, []), (.iload_n 3, []), (.iconst 1, []), (.iadd, []), (.iload 5, []), (.i2l, []), (.aload_n 0, []), (.iload_n 3, []), (.invokevirtual 41, [7, 1, 0, 2]), (.lmul, []), (.invokevirtual 74, [9, 2, 0, 0]), (.iinc 3 1, []), (.goto (-102), [1001])], none)
noncomputable def bl_X0_goOn_9 : am_B := (115, [(.aload_n 0, []), (.getfield 23, [0, 3, 2]), (.iconst 0, []), (.aload_n 0, []), (.getfield 19, [0, 2, 2]), (.iconst 0, []), (.bipush 13, []), (.invokestatic 78, [1000000]), (.return_, [])], none)
noncomputable def bk_X0_goOn : List am_B := [bl_X0_goOn_0, bl_X0_goOn_1, bl_X0_goOn_2, bl_X0_goOn_3, bl_X0_goOn_4, bl_X0_goOn_5, bl_X0_goOn_6, bl_X0_goOn_7, bl_X0_goOn_8, bl_X0_goOn_9]
noncomputable def ck_X0_goOn : List (List (Nat × List Nat)) := [[(1, []), (3, [269]), (1, []), (3, [858, 799, 83]), (1, []), (1, [])],
  [(1, []), (1, []), (3, [266]), (3, [147]), (3, [])],
  [(1, []), (1, []), (3, [])],
  [(1, []), (3, [])],
  [(1, []), (1, []), (1, []), (1, []), (3, [863, 865, 22, 88])],
  [(2, []), (1, []), (1, []), (3, [])],
  [(1, []), (3, [])],
  [(1, []), (1, []), (1, []), (1, []), (3, [863, 865, 22, 88])],
  [(2, []), (1, []), (1, []), (1, []), (1, []), (2, []), (1, []), (1, []), (1, []), (3, [868, 870, 23, 88]), (1, []), (3, [872, 874, 24, 88]), (1, []), (1, []), (2, []), (2, []), (1, []), (2, []), (1, []), (1, []), (1, []), (1, []), (3, [868, 870, 23, 88]), (1, []), (3, [872, 874, 24, 88]), (1, []), (1, []), (1, []), (1, []), (2, []), (1, []), (1, []), (1, []), (3, [868, 870, 23, 88]), (1, []), (3, [872, 874, 24, 88]), (3, []), (3, [])],
  [(1, []), (3, [269]), (1, []), (1, []), (3, [268]), (1, []), (2, []), (3, [876, 447, 446, 92]), (1, [])]]
theorem ok_X0_goOn : am_ck 8 bk_X0_goOn ck_X0_goOn = true := am_ckD (by decide +kernel)
theorem ml_X0_goOn : am_ml 8 = 6 := by decide +kernel
theorem pn_X0_goOn : plainName (am_y 8).cls = true := by decide +kernel
/-- PaceBorder$Chance.bring(IJ)V: number 9, loop heads [] -/
noncomputable def bl_X0_bring_0 : am_B := (0, [(.iload_n 1, []), (.ifCond .lt 19, [3, 1])], none)
noncomputable def bl_X0_bring_1 : am_B := (4, [(.iload_n 1, []), (.bipush 13, []), (.if_icmp .ge 13, [3, 2])], none)
noncomputable def bl_X0_bring_2 : am_B := (10, [(.aload_n 0, []), (.getfield 23, [0, 3, 2]), (.iload_n 1, []), (.dup2, []), (.laload, []), (.lload_n 2, []), (.ladd, []), (.lastore, [])], some 3)
noncomputable def bl_X0_bring_3 : am_B := (20, [(.return_, [])], none)
noncomputable def bk_X0_bring : List am_B := [bl_X0_bring_0, bl_X0_bring_1, bl_X0_bring_2, bl_X0_bring_3]
noncomputable def ck_X0_bring : List (List (Nat × List Nat)) := [[(1, []), (3, [])],
  [(1, []), (2, []), (3, [])],
  [(1, []), (3, [269]), (1, []), (1, []), (1, []), (1, []), (1, []), (1, [])],
  [(1, [])]]
theorem ok_X0_bring : am_ck 9 bk_X0_bring ck_X0_bring = true := am_ckD (by decide +kernel)
theorem ml_X0_bring : am_ml 9 = 4 := by decide +kernel
theorem pn_X0_bring : plainName (am_y 9).cls = true := by decide +kernel
/-- PaceBorder$Chance.pairsThatMove(III)I: number 10, loop heads [1] -/
noncomputable def bl_X0_pairsThatMove_0 : am_B := (0, [(.aload_n 0, []), (.getfield 9, [0, 0, 2]), (.iload_n 1, []), (.iload_n 2, []), (.iload_n 3, []), (.invokevirtual 84, [41, 3, 2, 1]), (.istore 4, []), (.iconst 0, []), (.istore 5, []), (.iload 4, []), (.istore 6, [])], some 1001)
noncomputable def bl_X0_pairsThatMove_1 : am_B := (19, [(.iload 4, []), (.ifCond .le 24, [1004, 2])], none)
noncomputable def bl_X0_pairsThatMove_2 : am_B := (24, [(.iload 6, []), (.iconst 3, []), (.if_icmp .gt 18, [1004, 3])], none)
noncomputable def bl_X0_pairsThatMove_3 : am_B := (30, [(.iload 5, []), (.iconst 4, []), (.iload 6, []), (.isub, []), (.iadd, []), (.istore 5, []), (.iinc 6 1, []), (.goto (-23), [1001])], none)
noncomputable def bl_X0_pairsThatMove_4 : am_B := (45, [(.iload 5, []), (.ireturn, [0])], none)
noncomputable def bk_X0_pairsThatMove : List am_B := [bl_X0_pairsThatMove_0, bl_X0_pairsThatMove_1, bl_X0_pairsThatMove_2, bl_X0_pairsThatMove_3, bl_X0_pairsThatMove_4]
noncomputable def ck_X0_pairsThatMove : List (List (Nat × List Nat)) := [[(1, []), (3, [266]), (1, []), (1, []), (1, []), (3, [867, 623, 624, 85]), (2, []), (1, []), (2, []), (2, []), (2, [])],
  [(2, []), (3, [])],
  [(2, []), (1, []), (3, [])],
  [(2, []), (1, []), (2, []), (1, []), (1, []), (2, []), (3, []), (3, [])],
  [(2, []), (1, [])]]
theorem ok_X0_pairsThatMove : am_ck 10 bk_X0_pairsThatMove ck_X0_pairsThatMove = true := am_ckD (by decide +kernel)
theorem ml_X0_pairsThatMove : am_ml 10 = 7 := by decide +kernel
theorem pn_X0_pairsThatMove : plainName (am_y 10).cls = true := by decide +kernel
end
section
/-- PaceBorder$Turns.<init>(LPaceBorder$Ground;LPaceBorder$Days;)V: number 95, loop heads [] -/
noncomputable def bl_X7_init_0 : am_B := (0, [(.aload_n 0, []), (.invokespecial 3, [1000000]), (.aload_n 0, []), (.aload_n 1, []), (.putfield 9, [7, 0, 2, 1]), (.aload_n 0, []), (.aload_n 2, []), (.putfield 15, [7, 1, 2, 1]), (.aload_n 0, []), (.bipush 65, []), (.newarray .int, [10]), (.putfield 19, [7, 2, 2, 1]), (.aload_n 0, []), (.bipush 65, []), (.newarray .int, [10]), (.putfield 23, [7, 3, 2, 1]), (.return_, [])], none)
noncomputable def bk_X7_init : List am_B := [bl_X7_init_0]
noncomputable def ck_X7_init : List (List (Nat × List Nat)) := [[(1, []), (3, [284, 100, 101]), (1, []), (1, []), (3, [285]), (1, []), (1, []), (3, [286]), (1, []), (2, []), (2, []), (3, [287]), (1, []), (2, []), (2, []), (3, [288]), (1, [])]]
theorem ok_X7_init : am_ck 95 bk_X7_init ck_X7_init = true := am_ckD (by decide +kernel)
theorem ml_X7_init : am_ml 95 = 3 := by decide +kernel
theorem pn_X7_init : plainName (am_y 95).cls = true := by decide +kernel
/-- PaceBorder$Turns.solve(II)V: number 96, loop heads [1, 4, 6] -/
noncomputable def bl_X7_solve_0 : am_B := (0, [(.aload_n 0, []), (.iload_n 2, []), (.putfield 26, [7, 4, 0, 0]), (.iconst 0, []), (.istore_n 3, [])], some 1001)
noncomputable def bl_X7_solve_1 : am_B := (7, [(.iload_n 3, []), (.aload_n 0, []), (.getfield 9, [7, 0, 2]), (.getfield 30, [2, 0, 0]), (.if_icmp .gt 27, [1003, 2])], none)
noncomputable def bl_X7_solve_2 : am_B := (18, [(.aload_n 0, []), (.iload_n 1, []), (.iload_n 3, []), (.iconst 2, []), (.iload_n 3, []), (.imul, []), (.aload_n 0, []), (.getfield 9, [7, 0, 2]), (.getfield 30, [2, 0, 0]), (.isub, []), (.iconst 0, []), (.invokevirtual 35, [100, 4, 7, 0]), (.iinc 3 1, []), (.goto (-32), [1001])], none)
noncomputable def bl_X7_solve_3 : am_B := (42, [(.iload_n 1, []), (.iconst 1, []), (.isub, []), (.istore_n 3, [])], some 1004)
noncomputable def bl_X7_solve_4 : am_B := (46, [(.iload_n 3, []), (.ifCond .lt 37, [1009, 5])], none)
noncomputable def bl_X7_solve_5 : am_B := (50, [(.iconst 0, []), (.istore 4, [])], some 1006)
noncomputable def bl_X7_solve_6 : am_B := (53, [(.iload 4, []), (.aload_n 0, []), (.getfield 9, [7, 0, 2]), (.getfield 30, [2, 0, 0]), (.if_icmp .gt 16, [1008, 7])], none)
noncomputable def bl_X7_solve_7 : am_B := (65, [(.aload_n 0, []), (.iload_n 3, []), (.iload 4, []), (.invokevirtual 39, [97, 2, 7, 0]), (.iinc 4 1, []), (.goto (-22), [1006])], none)
noncomputable def bl_X7_solve_8 : am_B := (78, [(.iinc 3 (-1), []), (.goto (-35), [1004])], none)
noncomputable def bl_X7_solve_9 : am_B := (84, [(.return_, [])], none)
noncomputable def bk_X7_solve : List am_B := [bl_X7_solve_0, bl_X7_solve_1, bl_X7_solve_2, bl_X7_solve_3, bl_X7_solve_4, bl_X7_solve_5, bl_X7_solve_6, bl_X7_solve_7, bl_X7_solve_8, bl_X7_solve_9]
noncomputable def ck_X7_solve : List (List (Nat × List Nat)) := [[(1, []), (1, []), (3, [289]), (1, []), (1, [])],
  [(1, []), (1, []), (3, [285]), (3, [144]), (3, [])],
  [(1, []), (1, []), (1, []), (1, []), (1, []), (1, []), (1, []), (3, [285]), (3, [144]), (1, []), (1, []), (3, [914, 916, 26, 89]), (3, []), (3, [])],
  [(1, []), (1, []), (1, []), (1, [])],
  [(1, []), (3, [])],
  [(1, []), (2, [])],
  [(2, []), (1, []), (3, [285]), (3, [144]), (3, [])],
  [(1, []), (1, []), (2, []), (3, [921, 923, 27, 89]), (3, []), (3, [])],
  [(3, []), (3, [])],
  [(1, [])]]
theorem ok_X7_solve : am_ck 96 bk_X7_solve ck_X7_solve = true := am_ckD (by decide +kernel)
theorem ml_X7_solve : am_ml 96 = 5 := by decide +kernel
theorem pn_X7_solve : plainName (am_y 96).cls = true := by decide +kernel
/-- PaceBorder$Turns.choose(II)V: number 97, loop heads [1] -/
noncomputable def bl_X7_choose_0 : am_B := (0, [(.iconst 0, []), (.istore_n 3, []), (.iconst 0, []), (.istore 4, []), (.iconst 0, []), (.istore 5, [])], some 1001)
noncomputable def bl_X7_choose_1 : am_B := (8, [(.iload 5, []), (.iconst 3, []), (.if_icmp .gt 46, [1006, 2])], none)
noncomputable def bl_X7_choose_2 : am_B := (14, [(.aload_n 0, []), (.iload_n 1, []), (.iload_n 2, []), (.iload 5, []), (.aload_n 0, []), (.iload_n 1, []), (.iload_n 2, []), (.iload 5, []), (.invokevirtual 43, [98, 3, 7, 1]), (.invokevirtual 47, [99, 4, 7, 1]), (.istore 6, []), (.iload 5, []), (.ifCond .eq 10, [4, 3])], none)
noncomputable def bl_X7_choose_3 : am_B := (37, [(.iload 6, []), (.iload 4, []), (.if_icmp .le 10, [5, 4])], none)
noncomputable def bl_X7_choose_4 : am_B := (44, [(.iload 6, []), (.istore 4, []), (.iload 5, []), (.istore_n 3, [])], some 5)
noncomputable def bl_X7_choose_5 : am_B := (51, [(.iinc 5 1, []), (.goto (-46), [1001])], none)
noncomputable def bl_X7_choose_6 : am_B := (57, [(.aload_n 0, []), (.iload_n 1, []), (.iload_n 2, []), (.iload 4, []), (.iload_n 3, []), (.invokevirtual 35, [100, 4, 7, 0]), (.return_, [])], none)
noncomputable def bk_X7_choose : List am_B := [bl_X7_choose_0, bl_X7_choose_1, bl_X7_choose_2, bl_X7_choose_3, bl_X7_choose_4, bl_X7_choose_5, bl_X7_choose_6]
noncomputable def ck_X7_choose : List (List (Nat × List Nat)) := [[(1, []), (1, []), (1, []), (2, []), (1, []), (2, [])],
  [(2, []), (1, []), (3, [])],
  [(1, []), (1, []), (1, []), (2, []), (1, []), (1, []), (1, []), (2, []), (3, [925, 927, 28, 89]), (3, [929, 931, 29, 89]), (2, []), (2, []), (3, [])],
  [(2, []), (2, []), (3, [])],
  [(2, []), (2, []), (2, []), (1, [])],
  [(3, []), (3, [])],
  [(1, []), (1, []), (1, []), (2, []), (1, []), (3, [914, 916, 26, 89]), (1, [])]]
theorem ok_X7_choose : am_ck 97 bk_X7_choose ck_X7_choose = true := am_ckD (by decide +kernel)
theorem ml_X7_choose : am_ml 97 = 7 := by decide +kernel
theorem pn_X7_choose : plainName (am_y 97).cls = true := by decide +kernel
/-- PaceBorder$Turns.bestReply(III)I: number 98, loop heads [1] -/
noncomputable def bl_X7_bestReply_0 : am_B := (0, [(.iconst 0, []), (.istore 4, []), (.aload_n 0, []), (.iload_n 1, []), (.iload_n 2, []), (.iload_n 3, []), (.iconst 0, []), (.invokevirtual 47, [99, 4, 7, 1]), (.istore 5, []), (.iconst 1, []), (.istore 6, [])], some 1001)
noncomputable def bl_X7_bestReply_1 : am_B := (16, [(.iload 6, []), (.iconst 3, []), (.if_icmp .gt 35, [1005, 2])], none)
noncomputable def bl_X7_bestReply_2 : am_B := (22, [(.aload_n 0, []), (.iload_n 1, []), (.iload_n 2, []), (.iload_n 3, []), (.iload 6, []), (.invokevirtual 47, [99, 4, 7, 1]), (.istore 7, []), (.iload 7, []), (.iload 5, []), (.if_icmp .ge 11, [4, 3])], none)
noncomputable def bl_X7_bestReply_3 : am_B := (40, [(.iload 7, []), (.istore 5, []), (.iload 6, []), (.istore 4, [])], some 4)
noncomputable def bl_X7_bestReply_4 : am_B := (48, [(.iinc 6 1, []), (.goto (-35), [1001])], none)
noncomputable def bl_X7_bestReply_5 : am_B := (54, [(.iload 4, []), (.ireturn, [0])], none)
noncomputable def bk_X7_bestReply : List am_B := [bl_X7_bestReply_0, bl_X7_bestReply_1, bl_X7_bestReply_2, bl_X7_bestReply_3, bl_X7_bestReply_4, bl_X7_bestReply_5]
noncomputable def ck_X7_bestReply : List (List (Nat × List Nat)) := [[(1, []), (2, []), (1, []), (1, []), (1, []), (1, []), (1, []), (3, [929, 931, 29, 89]), (2, []), (1, []), (2, [])],
  [(2, []), (1, []), (3, [])],
  [(1, []), (1, []), (1, []), (1, []), (2, []), (3, [929, 931, 29, 89]), (2, []), (2, []), (2, []), (3, [])],
  [(2, []), (2, []), (2, []), (2, [])],
  [(3, []), (3, [])],
  [(2, []), (1, [])]]
theorem ok_X7_bestReply : am_ck 98 bk_X7_bestReply ck_X7_bestReply = true := am_ckD (by decide +kernel)
theorem ml_X7_bestReply : am_ml 98 = 8 := by decide +kernel
theorem pn_X7_bestReply : plainName (am_y 98).cls = true := by decide +kernel
/-- PaceBorder$Turns.worthOfBoth(IIII)I: number 99, loop heads [] -/
noncomputable def bl_X7_worthOfBoth_0 : am_B := (0, [(.aload_n 0, []), (.getfield 9, [7, 0, 2]), (.iload_n 2, []), (.aload_n 0, []), (.getfield 15, [7, 1, 2]), (.getfield 51, [1, 0, 0]), (.iload_n 1, []), (.iadd, []), (.iload_n 3, []), (.iload 4, []), (.invokevirtual 56, [42, 4, 2, 1]), (.istore 5, []), (.aload_n 0, []), (.getfield 26, [7, 4, 0]), (.iload_n 3, []), (.iload 4, []), (.isub, []), (.imul, []), (.aload_n 0, []), (.iload_n 1, []), (.iconst 1, []), (.iadd, []), (.iload 5, []), (.invokevirtual 59, [101, 2, 7, 1]), (.iadd, []), (.ireturn, [0])], none)
noncomputable def bk_X7_worthOfBoth : List am_B := [bl_X7_worthOfBoth_0]
noncomputable def ck_X7_worthOfBoth : List (List (Nat × List Nat)) := [[(1, []), (3, [285]), (1, []), (1, []), (3, [286]), (3, [198]), (1, []), (1, []), (1, []), (2, []), (3, [933, 616, 617, 85]), (2, []), (1, []), (3, [289]), (1, []), (2, []), (1, []), (1, []), (1, []), (1, []), (1, []), (1, []), (2, []), (3, [934, 935, 936, 89]), (1, []), (1, [])]]
theorem ok_X7_worthOfBoth : am_ck 99 bk_X7_worthOfBoth ck_X7_worthOfBoth = true := am_ckD (by decide +kernel)
theorem ml_X7_worthOfBoth : am_ml 99 = 6 := by decide +kernel
theorem pn_X7_worthOfBoth : plainName (am_y 99).cls = true := by decide +kernel
/-- PaceBorder$Turns.note(IIII)V: number 100, loop heads [] -/
noncomputable def bl_X7_note_0 : am_B := (0, [(.iload_n 1, []), (.iload_n 2, []), (.invokestatic 63, [103, 2, 0, 1]), (.ifCond .eq 28, [2, 1])], none)
noncomputable def bl_X7_note_1 : am_B := (8, [(.aload_n 0, []), (.getfield 19, [7, 2, 2]), (.iload_n 1, []), (.bipush 13, []), (.imul, []), (.iload_n 2, []), (.iadd, []), (.iload_n 3, []), (.iastore, []), (.aload_n 0, []), (.getfield 23, [7, 3, 2]), (.iload_n 1, []), (.bipush 13, []), (.imul, []), (.iload_n 2, []), (.iadd, []), (.iload 4, []), (.iastore, [])], some 2)
noncomputable def bl_X7_note_2 : am_B := (33, [(.return_, [])], none)
noncomputable def bk_X7_note : List am_B := [bl_X7_note_0, bl_X7_note_1, bl_X7_note_2]
noncomputable def ck_X7_note : List (List (Nat × List Nat)) := [[(1, []), (1, []), (3, [918, 919, 89]), (3, [])],
  [(1, []), (3, [287]), (1, []), (2, []), (1, []), (1, []), (1, []), (1, []), (1, []), (1, []), (3, [288]), (1, []), (2, []), (1, []), (1, []), (1, []), (2, []), (1, [])],
  [(1, [])]]
theorem ok_X7_note : am_ck 100 bk_X7_note ck_X7_note = true := am_ckD (by decide +kernel)
theorem ml_X7_note : am_ml 100 = 5 := by decide +kernel
theorem pn_X7_note : plainName (am_y 100).cls = true := by decide +kernel
/-- PaceBorder$Turns.worthOf(II)I: number 101, loop heads [] -/
noncomputable def bl_X7_worthOf_0 : am_B := (0, [(.iload_n 1, []), (.iload_n 2, []), (.invokestatic 63, [103, 2, 0, 1]), (.ifCond .eq 17, [2, 1])], none)
noncomputable def bl_X7_worthOf_1 : am_B := (8, [(.aload_n 0, []), (.getfield 19, [7, 2, 2]), (.iload_n 1, []), (.bipush 13, []), (.imul, []), (.iload_n 2, []), (.iadd, []), (.iaload, []), (.goto 4, [3])], none)
noncomputable def bl_X7_worthOf_2 : am_B := (22, [(.iconst 0, [])], some 3)
noncomputable def bl_X7_worthOf_3 : am_B := (23, [(.ireturn, [0])], none)
noncomputable def bk_X7_worthOf : List am_B := [bl_X7_worthOf_0, bl_X7_worthOf_1, bl_X7_worthOf_2, bl_X7_worthOf_3]
noncomputable def ck_X7_worthOf : List (List (Nat × List Nat)) := [[(1, []), (1, []), (3, [918, 919, 89]), (3, [])],
  [(1, []), (3, [287]), (1, []), (2, []), (1, []), (1, []), (1, []), (1, []), (3, [])],
  [(1, [])],
  [(1, [])]]
theorem ok_X7_worthOf : am_ck 101 bk_X7_worthOf ck_X7_worthOf = true := am_ckD (by decide +kernel)
theorem ml_X7_worthOf : am_ml 101 = 3 := by decide +kernel
theorem pn_X7_worthOf : plainName (am_y 101).cls = true := by decide +kernel
/-- PaceBorder$Turns.bestSaying(II)I: number 102, loop heads [] -/
noncomputable def bl_X7_bestSaying_0 : am_B := (0, [(.iload_n 1, []), (.iload_n 2, []), (.invokestatic 63, [103, 2, 0, 1]), (.ifCond .eq 17, [2, 1])], none)
noncomputable def bl_X7_bestSaying_1 : am_B := (8, [(.aload_n 0, []), (.getfield 23, [7, 3, 2]), (.iload_n 1, []), (.bipush 13, []), (.imul, []), (.iload_n 2, []), (.iadd, []), (.iaload, []), (.goto 4, [3])], none)
noncomputable def bl_X7_bestSaying_2 : am_B := (22, [(.iconst 0, [])], some 3)
noncomputable def bl_X7_bestSaying_3 : am_B := (23, [(.ireturn, [0])], none)
noncomputable def bk_X7_bestSaying : List am_B := [bl_X7_bestSaying_0, bl_X7_bestSaying_1, bl_X7_bestSaying_2, bl_X7_bestSaying_3]
noncomputable def ck_X7_bestSaying : List (List (Nat × List Nat)) := [[(1, []), (1, []), (3, [918, 919, 89]), (3, [])],
  [(1, []), (3, [288]), (1, []), (2, []), (1, []), (1, []), (1, []), (1, []), (3, [])],
  [(1, [])],
  [(1, [])]]
theorem ok_X7_bestSaying : am_ck 102 bk_X7_bestSaying ck_X7_bestSaying = true := am_ckD (by decide +kernel)
theorem ml_X7_bestSaying : am_ml 102 = 3 := by decide +kernel
theorem pn_X7_bestSaying : plainName (am_y 102).cls = true := by decide +kernel
/-- PaceBorder$Turns.isSlot(II)Z: number 103, loop heads [] -/
noncomputable def bl_X7_isSlot_0 : am_B := (0, [(.iload_n 0, []), (.ifCond .lt 22, [5, 1])], none)
noncomputable def bl_X7_isSlot_1 : am_B := (4, [(.iload_n 0, []), (.iconst 4, []), (.if_icmp .gt 17, [5, 2])], none)
noncomputable def bl_X7_isSlot_2 : am_B := (9, [(.iload_n 1, []), (.ifCond .lt 13, [5, 3])], none)
noncomputable def bl_X7_isSlot_3 : am_B := (13, [(.iload_n 1, []), (.bipush 13, []), (.if_icmp .ge 7, [5, 4])], none)
noncomputable def bl_X7_isSlot_4 : am_B := (19, [(.iconst 1, []), (.goto 4, [6])], none)
noncomputable def bl_X7_isSlot_5 : am_B := (23, [(.iconst 0, [])], some 6)
noncomputable def bl_X7_isSlot_6 : am_B := (24, [(.ireturn, [1])], none)
noncomputable def bk_X7_isSlot : List am_B := [bl_X7_isSlot_0, bl_X7_isSlot_1, bl_X7_isSlot_2, bl_X7_isSlot_3, bl_X7_isSlot_4, bl_X7_isSlot_5, bl_X7_isSlot_6]
noncomputable def ck_X7_isSlot : List (List (Nat × List Nat)) := [[(1, []), (3, [])],
  [(1, []), (1, []), (3, [])],
  [(1, []), (3, [])],
  [(1, []), (2, []), (3, [])],
  [(1, []), (3, [])],
  [(1, [])],
  [(1, [])]]
theorem ok_X7_isSlot : am_ck 103 bk_X7_isSlot ck_X7_isSlot = true := am_ckD (by decide +kernel)
theorem ml_X7_isSlot : am_ml 103 = 2 := by decide +kernel
theorem pn_X7_isSlot : plainName (am_y 103).cls = true := by decide +kernel
/-- PaceBorder$Turns.isCalm(I)Z: number 104, loop heads [1] -/
noncomputable def bl_X7_isCalm_0 : am_B := (0, [(.iconst 0, []), (.istore_n 2, [])], some 1001)
noncomputable def bl_X7_isCalm_1 : am_B := (2, [(.iload_n 2, []), (.iload_n 1, []), (.if_icmp .ge 42, [1006, 2])], none)
noncomputable def bl_X7_isCalm_2 : am_B := (7, [(.aload_n 0, []), (.iload_n 2, []), (.aload_n 0, []), (.getfield 15, [7, 1, 2]), (.getfield 67, [1, 1, 0]), (.invokevirtual 70, [102, 2, 7, 1]), (.ifCond .ne 19, [1004, 3])], none)
noncomputable def bl_X7_isCalm_3 : am_B := (22, [(.aload_n 0, []), (.iload_n 2, []), (.aload_n 0, []), (.getfield 15, [7, 1, 2]), (.getfield 67, [1, 1, 0]), (.iconst 0, []), (.invokevirtual 43, [98, 3, 7, 1]), (.ifCond .eq 5, [5, 1004])], none)
noncomputable def bl_X7_isCalm_4 : am_B := (38, [(.iconst 0, []), (.ireturn, [1])], none)
noncomputable def bl_X7_isCalm_5 : am_B := (40, [(.iinc 2 1, []), (.goto (-41), [1001])], none)
noncomputable def bl_X7_isCalm_6 : am_B := (46, [(.iconst 1, []), (.ireturn, [1])], none)
noncomputable def bk_X7_isCalm : List am_B := [bl_X7_isCalm_0, bl_X7_isCalm_1, bl_X7_isCalm_2, bl_X7_isCalm_3, bl_X7_isCalm_4, bl_X7_isCalm_5, bl_X7_isCalm_6]
noncomputable def ck_X7_isCalm : List (List (Nat × List Nat)) := [[(1, []), (1, [])],
  [(1, []), (1, []), (3, [])],
  [(1, []), (1, []), (1, []), (3, [286]), (3, [204]), (3, [955, 944, 945, 89]), (3, [])],
  [(1, []), (1, []), (1, []), (3, [286]), (3, [204]), (1, []), (3, [925, 927, 28, 89]), (3, [])],
  [(1, []), (1, [])],
  [(3, []), (3, [])],
  [(1, []), (1, [])]]
theorem ok_X7_isCalm : am_ck 104 bk_X7_isCalm ck_X7_isCalm = true := am_ckD (by decide +kernel)
theorem ml_X7_isCalm : am_ml 104 = 3 := by decide +kernel
theorem pn_X7_isCalm : plainName (am_y 104).cls = true := by decide +kernel
end
section
/-- PaceBorder$Past.<init>(LPaceBorder$Ground;LPaceBorder$Days;)V: number 44, loop heads [] -/
noncomputable def bl_X3_init_0 : am_B := (0, [(.aload_n 0, []), (.invokespecial 3, [1000000]), (.aload_n 0, []), (.aload_n 1, []), (.putfield 9, [3, 0, 2, 1]), (.aload_n 0, []), (.aload_n 2, []), (.putfield 15, [3, 1, 2, 1]), (.aload_n 0, []), (.new 19, [2, 3]), (.dup, []), (.invokespecial 21, [27, 0]), (.putfield 22, [3, 2, 2, 1]), (.aload_n 0, []), (.bipush 41, []), (.newarray .int, [10]), (.putfield 25, [3, 3, 2, 1]), (.return_, [])], none)
noncomputable def bk_X3_init : List am_B := [bl_X3_init_0]
noncomputable def ck_X3_init : List (List (Nat × List Nat)) := [[(1, []), (3, [306, 100, 101]), (1, []), (1, []), (3, [309]), (1, []), (1, []), (3, [310]), (1, []), (3, [307, 138, 85]), (1, []), (3, [308, 140, 85]), (3, [311]), (1, []), (2, []), (2, []), (3, [312]), (1, [])]]
theorem ok_X3_init : am_ck 44 bk_X3_init ck_X3_init = true := am_ckD (by decide +kernel)
theorem ml_X3_init : am_ml 44 = 3 := by decide +kernel
theorem pn_X3_init : plainName (am_y 44).cls = true := by decide +kernel
/-- PaceBorder$Past.areBooks(LPaceBorder$Shelf;I)Z: number 45, loop heads [1] -/
noncomputable def bl_X3_areBooks_0 : am_B := (0, [(.iconst 0, []), (.istore_n 3, [])], some 1001)
noncomputable def bl_X3_areBooks_1 : am_B := (2, [(.iload_n 3, []), (.aload_n 1, []), (.iload_n 2, []), (.invokevirtual 29, [83, 1, 6, 1]), (.if_icmp .ge 70, [1009, 2])], none)
noncomputable def bl_X3_areBooks_2 : am_B := (11, [(.aload_n 1, []), (.iload_n 2, []), (.iload_n 3, []), (.invokevirtual 35, [88, 2, 6, 1]), (.istore 4, []), (.iload 4, []), (.ifCond .lt 15, [1004, 3])], none)
noncomputable def bl_X3_areBooks_3 : am_B := (24, [(.iload 4, []), (.aload_n 0, []), (.getfield 15, [3, 1, 2]), (.getfield 39, [1, 0, 0]), (.if_icmp .le 5, [5, 1004])], none)
noncomputable def bl_X3_areBooks_4 : am_B := (36, [(.iconst 0, []), (.ireturn, [1])], none)
noncomputable def bl_X3_areBooks_5 : am_B := (38, [(.aload_n 0, []), (.getfield 9, [3, 0, 2]), (.aload_n 1, []), (.iload_n 2, []), (.iload_n 3, []), (.iconst 1, []), (.iadd, []), (.invokevirtual 35, [88, 2, 6, 1]), (.invokevirtual 45, [33, 1, 2, 1]), (.ifCond .eq 17, [1007, 6])], none)
noncomputable def bl_X3_areBooks_6 : am_B := (56, [(.aload_n 1, []), (.iload_n 2, []), (.iload_n 3, []), (.iconst 2, []), (.iadd, []), (.invokevirtual 35, [88, 2, 6, 1]), (.invokestatic 49, [159, 1, 1, 1]), (.ifCond .ne 5, [8, 1007])], none)
noncomputable def bl_X3_areBooks_7 : am_B := (70, [(.iconst 0, []), (.ireturn, [1])], none)
noncomputable def bl_X3_areBooks_8 : am_B := (72, [(.iinc 3 3, []), (.goto (-73), [1001])], none)
noncomputable def bl_X3_areBooks_9 : am_B := (78, [(.iconst 1, []), (.ireturn, [1])], none)
noncomputable def bk_X3_areBooks : List am_B := [bl_X3_areBooks_0, bl_X3_areBooks_1, bl_X3_areBooks_2, bl_X3_areBooks_3, bl_X3_areBooks_4, bl_X3_areBooks_5, bl_X3_areBooks_6, bl_X3_areBooks_7, bl_X3_areBooks_8, bl_X3_areBooks_9]
noncomputable def ck_X3_areBooks : List (List (Nat × List Nat)) := [[(1, []), (1, [])],
  [(1, []), (1, []), (1, []), (3, [968, 400, 401, 81]), (3, [])],
  [(1, []), (1, []), (1, []), (3, [969, 408, 409, 81]), (2, []), (2, []), (3, [])],
  [(2, []), (1, []), (3, [310]), (3, [194]), (3, [])],
  [(1, []), (1, [])],
  [(1, []), (3, [309]), (1, []), (1, []), (1, []), (1, []), (1, []), (3, [969, 408, 409, 81]), (3, [970, 530, 531, 85]), (3, [])],
  [(1, []), (1, []), (1, []), (1, []), (1, []), (3, [969, 408, 409, 81]), (3, [971, 593, 80]), (3, [])],
  [(1, []), (1, [])],
  [(3, []), (3, [])],
  [(1, []), (1, [])]]
theorem ok_X3_areBooks : am_ck 45 bk_X3_areBooks ck_X3_areBooks = true := am_ckD (by decide +kernel)
theorem ml_X3_areBooks : am_ml 45 = 5 := by decide +kernel
theorem pn_X3_areBooks : plainName (am_y 45).cls = true := by decide +kernel
/-- PaceBorder$Past.startsThatFit(LPaceBorder$Shelf;I)I: number 46, loop heads [1] -/
noncomputable def bl_X3_startsThatFit_0 : am_B := (0, [(.iconst 0, []), (.istore_n 3, []), (.iconst 0, []), (.istore 4, [])], some 1001)
noncomputable def bl_X3_startsThatFit_1 : am_B := (5, [(.iload 4, []), (.aload_n 0, []), (.getfield 9, [3, 0, 2]), (.getfield 52, [2, 0, 0]), (.if_icmp .gt 42, [1005, 2])], none)
noncomputable def bl_X3_startsThatFit_2 : am_B := (17, [(.aload_n 0, []), (.getfield 15, [3, 1, 2]), (.aload_n 0, []), (.getfield 9, [3, 0, 2]), (.iload 4, []), (.aload_n 0, []), (.getfield 25, [3, 3, 2]), (.invokevirtual 55, [26, 3, 1, 0]), (.aload_n 0, []), (.aload_n 1, []), (.iload_n 2, []), (.invokevirtual 59, [47, 2, 3, 1]), (.ifCond .eq 10, [4, 3])], none)
noncomputable def bl_X3_startsThatFit_3 : am_B := (43, [(.iload_n 3, []), (.iconst 1, []), (.iload 4, []), (.ishl, []), (.ior, []), (.istore_n 3, [])], some 4)
noncomputable def bl_X3_startsThatFit_4 : am_B := (50, [(.iinc 4 1, []), (.goto (-48), [1001])], none)
noncomputable def bl_X3_startsThatFit_5 : am_B := (56, [(.iload_n 3, []), (.ireturn, [0])], none)
noncomputable def bk_X3_startsThatFit : List am_B := [bl_X3_startsThatFit_0, bl_X3_startsThatFit_1, bl_X3_startsThatFit_2, bl_X3_startsThatFit_3, bl_X3_startsThatFit_4, bl_X3_startsThatFit_5]
noncomputable def ck_X3_startsThatFit : List (List (Nat × List Nat)) := [[(1, []), (1, []), (1, []), (2, [])],
  [(2, []), (1, []), (3, [309]), (3, [146]), (3, [])],
  [(1, []), (3, [310]), (1, []), (3, [309]), (2, []), (1, []), (3, [312]), (3, [976, 977, 978, 86]), (1, []), (1, []), (1, []), (3, [980, 982, 30, 90]), (3, [])],
  [(1, []), (1, []), (2, []), (1, []), (1, []), (1, [])],
  [(3, []), (3, [])],
  [(1, []), (1, [])]]
theorem ok_X3_startsThatFit : am_ck 46 bk_X3_startsThatFit ck_X3_startsThatFit = true := am_ckD (by decide +kernel)
theorem ml_X3_startsThatFit : am_ml 46 = 5 := by decide +kernel
theorem pn_X3_startsThatFit : plainName (am_y 46).cls = true := by decide +kernel
/-- PaceBorder$Past.fits(LPaceBorder$Shelf;I)Z: number 47, loop heads [1] -/
noncomputable def bl_X3_fits_0 : am_B := (0, [(.iconst 0, []), (.istore_n 3, [])], some 1001)
noncomputable def bl_X3_fits_1 : am_B := (2, [(.iload_n 3, []), (.aload_n 1, []), (.iload_n 2, []), (.invokevirtual 29, [83, 1, 6, 1]), (.if_icmp .ge 47, [1005, 2])], none)
noncomputable def bl_X3_fits_2 : am_B := (11, [(.aload_n 0, []), (.aload_n 1, []), (.iload_n 2, []), (.iload_n 3, []), (.invokevirtual 35, [88, 2, 6, 1]), (.invokevirtual 63, [48, 1, 3, 1]), (.istore 4, []), (.aload_n 1, []), (.iload_n 2, []), (.iload_n 3, []), (.iconst 1, []), (.iadd, []), (.invokevirtual 35, [88, 2, 6, 1]), (.iload 4, []), (.invokestatic 66, [39, 2, 0, 1]), (.aload_n 1, []), (.iload_n 2, []), (.iload_n 3, []), (.iconst 2, []), (.iadd, []), (.invokevirtual 35, [88, 2, 6, 1]), (.if_icmp .eq 5, [4, 3])], none)
noncomputable def bl_X3_fits_3 : am_B := (47, [(.iconst 0, []), (.ireturn, [1])], none)
noncomputable def bl_X3_fits_4 : am_B := (49, [(.iinc 3 3, []), (.goto (-50), [1001])], none)
noncomputable def bl_X3_fits_5 : am_B := (55, [(.iconst 1, []), (.ireturn, [1])], none)
noncomputable def bk_X3_fits : List am_B := [bl_X3_fits_0, bl_X3_fits_1, bl_X3_fits_2, bl_X3_fits_3, bl_X3_fits_4, bl_X3_fits_5]
noncomputable def ck_X3_fits : List (List (Nat × List Nat)) := [[(1, []), (1, [])],
  [(1, []), (1, []), (1, []), (3, [968, 400, 401, 81]), (3, [])],
  [(1, []), (1, []), (1, []), (1, []), (3, [969, 408, 409, 81]), (3, [984, 986, 31, 90]), (2, []), (1, []), (1, []), (1, []), (1, []), (1, []), (3, [969, 408, 409, 81]), (2, []), (3, [988, 547, 85]), (1, []), (1, []), (1, []), (1, []), (1, []), (3, [969, 408, 409, 81]), (3, [])],
  [(1, []), (1, [])],
  [(3, []), (3, [])],
  [(1, []), (1, [])]]
theorem ok_X3_fits : am_ck 47 bk_X3_fits ck_X3_fits = true := am_ckD (by decide +kernel)
theorem ml_X3_fits : am_ml 47 = 5 := by decide +kernel
theorem pn_X3_fits : plainName (am_y 47).cls = true := by decide +kernel
/-- PaceBorder$Past.trailAt(I)I: number 48, loop heads [] -/
noncomputable def bl_X3_trailAt_0 : am_B := (0, [(.iload_n 1, []), (.ifCond .lt 18, [3, 1])], none)
noncomputable def bl_X3_trailAt_1 : am_B := (4, [(.iload_n 1, []), (.bipush 40, []), (.if_icmp .gt 12, [3, 2])], none)
noncomputable def bl_X3_trailAt_2 : am_B := (10, [(.aload_n 0, []), (.getfield 25, [3, 3, 2]), (.iload_n 1, []), (.iaload, []), (.goto 4, [4])], none)
noncomputable def bl_X3_trailAt_3 : am_B := (19, [(.iconst 0, [])], some 4)
noncomputable def bl_X3_trailAt_4 : am_B := (20, [(.ireturn, [0])], none)
noncomputable def bk_X3_trailAt : List am_B := [bl_X3_trailAt_0, bl_X3_trailAt_1, bl_X3_trailAt_2, bl_X3_trailAt_3, bl_X3_trailAt_4]
noncomputable def ck_X3_trailAt : List (List (Nat × List Nat)) := [[(1, []), (3, [])],
  [(1, []), (2, []), (3, [])],
  [(1, []), (3, [312]), (1, []), (1, []), (3, [])],
  [(1, [])],
  [(1, [])]]
theorem ok_X3_trailAt : am_ck 48 bk_X3_trailAt ck_X3_trailAt = true := am_ckD (by decide +kernel)
theorem ml_X3_trailAt : am_ml 48 = 2 := by decide +kernel
theorem pn_X3_trailAt : plainName (am_y 48).cls = true := by decide +kernel
/-- PaceBorder$Past.kindsThatFit(I)I: number 49, loop heads [1] -/
noncomputable def bl_X3_kindsThatFit_0 : am_B := (0, [(.iconst 0, []), (.istore_n 2, []), (.aload_n 0, []), (.getfield 22, [3, 2, 2]), (.aload_n 0, []), (.getfield 9, [3, 0, 2]), (.invokevirtual 69, [31, 1, 2, 0]), (.iconst 0, []), (.istore_n 3, [])], some 1001)
noncomputable def bl_X3_kindsThatFit_1 : am_B := (15, [(.iload_n 3, []), (.bipush 6, []), (.if_icmp .ge 68, [1005, 2])], none)
noncomputable def bl_X3_kindsThatFit_2 : am_B := (21, [(.aload_n 0, []), (.getfield 22, [3, 2, 2]), (.iload_n 1, []), (.iload_n 3, []), (.invokevirtual 73, [32, 2, 2, 0]), (.aload_n 0, []), (.getfield 15, [3, 1, 2]), (.aload_n 0, []), (.getfield 22, [3, 2, 2]), (.aload_n 0, []), (.getfield 15, [3, 1, 2]), (.iconst 0, []), (.invokevirtual 77, [21, 1, 1, 1]), (.aload_n 0, []), (.getfield 25, [3, 3, 2]), (.invokevirtual 55, [26, 3, 1, 0]), (.aload_n 0, []), (.aload_n 0, []), (.getfield 15, [3, 1, 2]), (.getfield 39, [1, 0, 0]), (.invokevirtual 63, [48, 1, 3, 1]), (.aload_n 0, []), (.getfield 15, [3, 1, 2]), (.getfield 80, [1, 1, 0]), (.if_icmp .ne 9, [4, 3])], none)
noncomputable def bl_X3_kindsThatFit_3 : am_B := (74, [(.iload_n 2, []), (.iconst 1, []), (.iload_n 3, []), (.ishl, []), (.ior, []), (.istore_n 2, [])], some 4)
noncomputable def bl_X3_kindsThatFit_4 : am_B := (80, [(.iinc 3 1, []), (.goto (-68), [1001])], none)
noncomputable def bl_X3_kindsThatFit_5 : am_B := (86, [(.iload_n 2, []), (.ireturn, [0])], none)
noncomputable def bk_X3_kindsThatFit : List am_B := [bl_X3_kindsThatFit_0, bl_X3_kindsThatFit_1, bl_X3_kindsThatFit_2, bl_X3_kindsThatFit_3, bl_X3_kindsThatFit_4, bl_X3_kindsThatFit_5]
noncomputable def ck_X3_kindsThatFit : List (List (Nat × List Nat)) := [[(1, []), (1, []), (1, []), (3, [311]), (1, []), (3, [309]), (3, [997, 517, 518, 85]), (1, []), (1, [])],
  [(1, []), (2, []), (3, [])],
  [(1, []), (3, [311]), (1, []), (1, []), (3, [998, 999, 1000, 85]), (1, []), (3, [310]), (1, []), (3, [311]), (1, []), (3, [310]), (1, []), (3, [1002, 561, 562, 86]), (1, []), (3, [312]), (3, [976, 977, 978, 86]), (1, []), (1, []), (3, [310]), (3, [194]), (3, [984, 986, 31, 90]), (1, []), (3, [310]), (3, [202]), (3, [])],
  [(1, []), (1, []), (1, []), (1, []), (1, []), (1, [])],
  [(3, []), (3, [])],
  [(1, []), (1, [])]]
theorem ok_X3_kindsThatFit : am_ck 49 bk_X3_kindsThatFit ck_X3_kindsThatFit = true := am_ckD (by decide +kernel)
theorem ml_X3_kindsThatFit : am_ml 49 = 4 := by decide +kernel
theorem pn_X3_kindsThatFit : plainName (am_y 49).cls = true := by decide +kernel
end
