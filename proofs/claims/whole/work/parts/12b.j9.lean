/-- java/lang/Math.abs(I)I: number 273, loop heads [] -/
def bk_J9_abs_0f7a4 : List am_B := [(0, [(.iload_n 0, []), (.ifCond .ge 8, [2, 1])], none),
  (4, [(.iload_n 0, []), (.ineg, []), (.goto 4, [3])], none),
  (9, [(.iload_n 0, [])], some 3),
  (10, [(.ireturn, [0])], none)]
def ck_J9_abs_0f7a4 : List (List (Nat × List Nat)) := [[(1, []), (3, [])],
  [(1, []), (1, []), (3, [])],
  [(1, [])],
  [(1, [])]]
theorem ok_J9_abs_0f7a4 : am_ck 273 bk_J9_abs_0f7a4 ck_J9_abs_0f7a4 = true := by decide +kernel
theorem ml_J9_abs_0f7a4 : am_ml 273 = 1 := by decide +kernel
theorem pn_J9_abs_0f7a4 : plainName (am_y 273).cls = true := by decide +kernel
/-- java/lang/Math.max(II)I: number 274, loop heads [] -/
def bk_J9_max_7cf53 : List am_B := [(0, [(.iload_n 0, []), (.iload_n 1, []), (.if_icmp .lt 7, [2, 1])], none),
  (5, [(.iload_n 0, []), (.goto 4, [3])], none),
  (9, [(.iload_n 1, [])], some 3),
  (10, [(.ireturn, [0])], none)]
def ck_J9_max_7cf53 : List (List (Nat × List Nat)) := [[(1, []), (1, []), (3, [])],
  [(1, []), (3, [])],
  [(1, [])],
  [(1, [])]]
theorem ok_J9_max_7cf53 : am_ck 274 bk_J9_max_7cf53 ck_J9_max_7cf53 = true := by decide +kernel
theorem ml_J9_max_7cf53 : am_ml 274 = 2 := by decide +kernel
theorem pn_J9_max_7cf53 : plainName (am_y 274).cls = true := by decide +kernel
/-- java/lang/Math.min(II)I: number 275, loop heads [] -/
def bk_J9_min_7cf53 : List am_B := [(0, [(.iload_n 0, []), (.iload_n 1, []), (.if_icmp .gt 7, [2, 1])], none),
  (5, [(.iload_n 0, []), (.goto 4, [3])], none),
  (9, [(.iload_n 1, [])], some 3),
  (10, [(.ireturn, [0])], none)]
def ck_J9_min_7cf53 : List (List (Nat × List Nat)) := [[(1, []), (1, []), (3, [])],
  [(1, []), (3, [])],
  [(1, [])],
  [(1, [])]]
theorem ok_J9_min_7cf53 : am_ck 275 bk_J9_min_7cf53 ck_J9_min_7cf53 = true := by decide +kernel
theorem ml_J9_min_7cf53 : am_ml 275 = 2 := by decide +kernel
theorem pn_J9_min_7cf53 : plainName (am_y 275).cls = true := by decide +kernel
