/-- java/lang/Integer.compare(II)I: number 272, loop heads [] -/
def bk_J6_compare_7cf53 : List am_B := [(0, [(.iload_n 0, []), (.iload_n 1, []), (.if_icmp .ge 7, [2, 1])], none),
  (5, [(.iconst (-1), []), (.goto 13, [5])], none),
  (9, [(.iload_n 0, []), (.iload_n 1, []), (.if_icmp .ne 7, [4, 3])], none),
  (14, [(.iconst 0, []), (.goto 4, [5])], none),
  (18, [(.iconst 1, [])], some 5),
  (19, [(.ireturn, [0])], none)]
def ck_J6_compare_7cf53 : List (List (Nat × List Nat)) := [[(1, []), (1, []), (3, [])],
  [(1, []), (3, [])],
  [(1, []), (1, []), (3, [])],
  [(1, []), (3, [])],
  [(1, [])],
  [(1, [])]]
theorem ok_J6_compare_7cf53 : am_ck 272 bk_J6_compare_7cf53 ck_J6_compare_7cf53 = true := by decide +kernel
theorem ml_J6_compare_7cf53 : am_ml 272 = 2 := by decide +kernel
theorem pn_J6_compare_7cf53 : plainName (am_y 272).cls = true := by decide +kernel
