/-- java/lang/Integer.compare(II)I: number 272, loop heads [] -/
noncomputable def bl_J6_compare_7cf53_0 : am_B := (0, [(.iload_n 0, []), (.iload_n 1, []), (.if_icmp .ge 7, [2, 1])], none)
noncomputable def bl_J6_compare_7cf53_1 : am_B := (5, [(.iconst (-1), []), (.goto 13, [5])], none)
noncomputable def bl_J6_compare_7cf53_2 : am_B := (9, [(.iload_n 0, []), (.iload_n 1, []), (.if_icmp .ne 7, [4, 3])], none)
noncomputable def bl_J6_compare_7cf53_3 : am_B := (14, [(.iconst 0, []), (.goto 4, [5])], none)
noncomputable def bl_J6_compare_7cf53_4 : am_B := (18, [(.iconst 1, [])], some 5)
noncomputable def bl_J6_compare_7cf53_5 : am_B := (19, [(.ireturn, [0])], none)
noncomputable def bk_J6_compare_7cf53 : List am_B := [bl_J6_compare_7cf53_0, bl_J6_compare_7cf53_1, bl_J6_compare_7cf53_2, bl_J6_compare_7cf53_3, bl_J6_compare_7cf53_4, bl_J6_compare_7cf53_5]
noncomputable def ck_J6_compare_7cf53 : List (List (Nat × List Nat)) := [[(1, []), (1, []), (3, [])],
  [(1, []), (3, [])],
  [(1, []), (1, []), (3, [])],
  [(1, []), (3, [])],
  [(1, [])],
  [(1, [])]]
theorem ok_J6_compare_7cf53 : am_ck 272 bk_J6_compare_7cf53 ck_J6_compare_7cf53 = true := am_ckD (by decide +kernel)
theorem ml_J6_compare_7cf53 : am_ml 272 = 2 := by decide +kernel
theorem pn_J6_compare_7cf53 : plainName (am_y 272).cls = true := by decide +kernel
