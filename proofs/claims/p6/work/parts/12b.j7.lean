/-- java/util/Arrays.fill([JJ)V: number 276, loop heads [1] -/
noncomputable def bl_J7_fill_d0a16_0 : am_B := (0, [(.iconst 0, []), (.istore_n 3, []), (.aload_n 0, []), (.arraylength, []), (.istore 4, [])], some 1001)
noncomputable def bl_J7_fill_d0a16_1 : am_B := (6, [(.iload_n 3, []), (.iload 4, []), (.if_icmp .ge 13, [1003, 2])], none)
noncomputable def bl_J7_fill_d0a16_2 : am_B := (12, [(.aload_n 0, []), (.iload_n 3, []), (.lload_n 1, []), (.lastore, []), (.iinc 3 1, []), (.goto (-13), [1001])], none)
noncomputable def bl_J7_fill_d0a16_3 : am_B := (22, [(.return_, [])], none)
noncomputable def bk_J7_fill_d0a16 : List am_B := [bl_J7_fill_d0a16_0, bl_J7_fill_d0a16_1, bl_J7_fill_d0a16_2, bl_J7_fill_d0a16_3]
noncomputable def ck_J7_fill_d0a16 : List (List (Nat × List Nat)) := [[(1, []), (1, []), (1, []), (1, []), (2, [])],
  [(1, []), (2, []), (3, [])],
  [(1, []), (1, []), (1, []), (1, []), (3, []), (3, [])],
  [(1, [])]]
theorem ok_J7_fill_d0a16 : am_ck 276 bk_J7_fill_d0a16 ck_J7_fill_d0a16 = true := am_ckD (by decide +kernel)
theorem ml_J7_fill_d0a16 : am_ml 276 = 5 := by decide +kernel
theorem pn_J7_fill_d0a16 : plainName (am_y 276).cls = true := by decide +kernel
/-- java/util/Arrays.fill([II)V: number 277, loop heads [1] -/
noncomputable def bl_J7_fill_53178_0 : am_B := (0, [(.iconst 0, []), (.istore_n 2, []), (.aload_n 0, []), (.arraylength, []), (.istore_n 3, [])], some 1001)
noncomputable def bl_J7_fill_53178_1 : am_B := (5, [(.iload_n 2, []), (.iload_n 3, []), (.if_icmp .ge 13, [1003, 2])], none)
noncomputable def bl_J7_fill_53178_2 : am_B := (10, [(.aload_n 0, []), (.iload_n 2, []), (.iload_n 1, []), (.iastore, []), (.iinc 2 1, []), (.goto (-12), [1001])], none)
noncomputable def bl_J7_fill_53178_3 : am_B := (20, [(.return_, [])], none)
noncomputable def bk_J7_fill_53178 : List am_B := [bl_J7_fill_53178_0, bl_J7_fill_53178_1, bl_J7_fill_53178_2, bl_J7_fill_53178_3]
noncomputable def ck_J7_fill_53178 : List (List (Nat × List Nat)) := [[(1, []), (1, []), (1, []), (1, []), (1, [])],
  [(1, []), (1, []), (3, [])],
  [(1, []), (1, []), (1, []), (1, []), (3, []), (3, [])],
  [(1, [])]]
theorem ok_J7_fill_53178 : am_ck 277 bk_J7_fill_53178 ck_J7_fill_53178 = true := am_ckD (by decide +kernel)
theorem ml_J7_fill_53178 : am_ml 277 = 4 := by decide +kernel
theorem pn_J7_fill_53178 : plainName (am_y 277).cls = true := by decide +kernel
