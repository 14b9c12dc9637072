/-- PaceBorder.stripFact(II)I: number 165, loop heads [] -/
noncomputable def bl_X8_stripFact_0 : am_B := (0, [(.iload_n 2, []), (.tableswitch 85 0 4 #[35, 44, 53, 65, 75], [6, 1, 2, 3, 4, 5])], none)
noncomputable def bl_X8_stripFact_1 : am_B := (36, [(.aload_n 0, []), (.getfield 33, [8, 3, 2]), (.iload_n 1, []), (.invokevirtual 374, [35, 1, 2, 1]), (.ireturn, [0])], none)
noncomputable def bl_X8_stripFact_2 : am_B := (45, [(.aload_n 0, []), (.getfield 33, [8, 3, 2]), (.iload_n 1, []), (.invokevirtual 377, [36, 1, 2, 1]), (.ireturn, [0])], none)
noncomputable def bl_X8_stripFact_3 : am_B := (54, [(.iload_n 1, []), (.aload_n 0, []), (.getfield 40, [8, 4, 2]), (.getfield 179, [1, 1, 0]), (.invokestatic 315, [39, 2, 0, 1]), (.ireturn, [0])], none)
noncomputable def bl_X8_stripFact_4 : am_B := (66, [(.aload_n 0, []), (.getfield 40, [8, 4, 2]), (.iload_n 1, []), (.iconst 0, []), (.invokevirtual 213, [22, 2, 1, 1]), (.ireturn, [0])], none)
noncomputable def bl_X8_stripFact_5 : am_B := (76, [(.aload_n 0, []), (.getfield 40, [8, 4, 2]), (.iload_n 1, []), (.iconst 1, []), (.invokevirtual 213, [22, 2, 1, 1]), (.ireturn, [0])], none)
noncomputable def bl_X8_stripFact_6 : am_B := (86, [(.aload_n 0, []), (.getfield 40, [8, 4, 2]), (.iload_n 1, []), (.invokevirtual 380, [23, 1, 1, 1]), (.ireturn, [0])], none)
noncomputable def bk_X8_stripFact : List am_B := [bl_X8_stripFact_0, bl_X8_stripFact_1, bl_X8_stripFact_2, bl_X8_stripFact_3, bl_X8_stripFact_4, bl_X8_stripFact_5, bl_X8_stripFact_6]
noncomputable def ck_X8_stripFact : List (List (Nat × List Nat)) := [[(1, []), (35, [])],
  [(1, []), (3, [325]), (1, []), (3, [537, 538, 539, 85]), (1, [])],
  [(1, []), (3, [325]), (1, []), (3, [542, 543, 544, 85]), (1, [])],
  [(1, []), (1, []), (3, [326]), (3, [205]), (3, [546, 547, 85]), (1, [])],
  [(1, []), (3, [326]), (1, []), (1, []), (3, [549, 550, 551, 86]), (1, [])],
  [(1, []), (3, [326]), (1, []), (1, []), (3, [549, 550, 551, 86]), (1, [])],
  [(1, []), (3, [326]), (1, []), (3, [556, 557, 558, 86]), (1, [])]]
theorem ok_X8_stripFact : am_ck 165 bk_X8_stripFact ck_X8_stripFact = true := am_ckD (by decide +kernel)
theorem ml_X8_stripFact : am_ml 165 = 3 := by decide +kernel
theorem pn_X8_stripFact : plainName (am_y 165).cls = true := by decide +kernel
/-- PaceBorder.keptLands()I: number 166, loop heads [1] -/
noncomputable def bl_X8_keptLands_0 : am_B := (0, [(.iconst 0, []), (.istore_n 1, []), (.iconst 0, []), (.istore_n 2, [])], some 1001)
noncomputable def bl_X8_keptLands_1 : am_B := (4, [(.iload_n 2, []), (.iconst 3, []), (.if_icmp .ge 22, [1005, 2])], none)
noncomputable def bl_X8_keptLands_2 : am_B := (9, [(.aload_n 0, []), (.getfield 48, [8, 6, 2]), (.iload_n 2, []), (.iaload, []), (.iconst (-1), []), (.if_icmp .eq 6, [4, 3])], none)
noncomputable def bl_X8_keptLands_3 : am_B := (19, [(.iinc 1 1, [])], some 4)
noncomputable def bl_X8_keptLands_4 : am_B := (22, [(.iinc 2 1, []), (.goto (-21), [1001])], none)
noncomputable def bl_X8_keptLands_5 : am_B := (28, [(.iload_n 1, []), (.ireturn, [0])], none)
noncomputable def bk_X8_keptLands : List am_B := [bl_X8_keptLands_0, bl_X8_keptLands_1, bl_X8_keptLands_2, bl_X8_keptLands_3, bl_X8_keptLands_4, bl_X8_keptLands_5]
noncomputable def ck_X8_keptLands : List (List (Nat × List Nat)) := [[(1, []), (1, []), (1, []), (1, [])],
  [(1, []), (1, []), (3, [])],
  [(1, []), (3, [328]), (1, []), (1, []), (1, []), (3, [])],
  [(3, [])],
  [(3, []), (3, [])],
  [(1, []), (1, [])]]
theorem ok_X8_keptLands : am_ck 166 bk_X8_keptLands ck_X8_keptLands = true := am_ckD (by decide +kernel)
theorem ml_X8_keptLands : am_ml 166 = 3 := by decide +kernel
theorem pn_X8_keptLands : plainName (am_y 166).cls = true := by decide +kernel
