/-- PaceBorder$Past.<init>(LPaceBorder$Ground;LPaceBorder$Days;)V: number 44, loop heads [] -/
noncomputable def bl_X3_init_0 : am_B := (0, [(.aload_n 0, []), (.invokespecial 3, [1000000]), (.aload_n 0, []), (.aload_n 1, []), (.putfield 9, [3, 0, 2, 1]), (.aload_n 0, []), (.aload_n 2, []), (.putfield 15, [3, 1, 2, 1]), (.aload_n 0, []), (.new 19, [2, 3]), (.dup, []), (.invokespecial 21, [27, 0]), (.putfield 22, [3, 2, 2, 1]), (.aload_n 0, []), (.bipush 41, []), (.newarray .int, [10]), (.putfield 25, [3, 3, 2, 1]), (.return_, [])], none)
noncomputable def bk_X3_init : List am_B := [bl_X3_init_0]
noncomputable def ck_X3_init : List (List (Nat × List Nat)) := [[(1, []), (3, [306, 100, 101]), (1, []), (1, []), (3, [309]), (1, []), (1, []), (3, [310]), (1, []), (3, [307, 138, 85]), (1, []), (3, [308, 140, 85]), (3, [311]), (1, []), (2, []), (2, []), (3, [312]), (1, [])]]
theorem ok_X3_init : am_ck 44 bk_X3_init ck_X3_init = true := am_ckD (by decide +kernel)
theorem ml_X3_init : am_ml 44 = 3 := by decide +kernel
theorem pn_X3_init : plainName (am_y 44).cls = true := by decide +kernel
/-- PaceBorder$Past.areBooks(LPaceBorder$Shelf;I)Z: number 45, loop heads [1] -/
noncomputable def bl_X3_areBooks_0 : am_B := (0, [(.iconst 0, []), (.istore_n 3, [])], some 1001)
noncomputable def bl_X3_areBooks_1 : am_B := (2, [(.iload_n 3, []), (.aload_n 1, []), (.iload_n 2, []), (.invokevirtual 29, [83, 1, 6, 1]), (.if_icmp .ge 70, [1009, 2])], none)
noncomputable def bl_X3_areBooks_2 : am_B := (11, [(.aload_n 1, []), (.iload_n 2, []), (.iload_n 3, []), (.invokevirtual 35, [88, 2, 6, 1]), (.istore 4, []), (.iload 4, []), (.ifCond .lt 15, [1004, 3])], none)
noncomputable def bl_X3_areBooks_3 : am_B := (24, [(.iload 4, []), (.aload_n 0, []), (.getfield 15, [3, 1, 2]), (.getfield 39, [1, 0, 0]), (.if_icmp .le 5, [5, 1004])], none)
noncomputable def bl_X3_areBooks_4 : am_B := (36, [(.iconst 0, []), (.ireturn, [1])], none)
noncomputable def bl_X3_areBooks_5 : am_B := (38, [(.aload_n 0, []), (.getfield 9, [3, 0, 2]), (.aload_n 1, []), (.iload_n 2, []), (.iload_n 3, []), (.iconst 1, []), (.iadd, []), (.invokevirtual 35, [88, 2, 6, 1]), (.invokevirtual 45, [33, 1, 2, 1]), (.ifCond .eq 17, [1007, 6])], none)
noncomputable def bl_X3_areBooks_6 : am_B := (56, [(.aload_n 1, []), (.iload_n 2, []), (.iload_n 3, []), (.iconst 2, []), (.iadd, []), (.invokevirtual 35, [88, 2, 6, 1]), (.invokestatic 49, [159, 1, 1, 1]), (.ifCond .ne 5, [8, 1007])], none)
noncomputable def bl_X3_areBooks_7 : am_B := (70, [(.iconst 0, []), (.ireturn, [1])], none)
noncomputable def bl_X3_areBooks_8 : am_B := (72, [(.iinc 3 3, []), (.goto (-73), [1001])], none)
noncomputable def bl_X3_areBooks_9 : am_B := (78, [(.iconst 1, []), (.ireturn, [1])], none)
noncomputable def bk_X3_areBooks : List am_B := [bl_X3_areBooks_0, bl_X3_areBooks_1, bl_X3_areBooks_2, bl_X3_areBooks_3, bl_X3_areBooks_4, bl_X3_areBooks_5, bl_X3_areBooks_6, bl_X3_areBooks_7, bl_X3_areBooks_8, bl_X3_areBooks_9]
noncomputable def ck_X3_areBooks : List (List (Nat × List Nat)) := [[(1, []), (1, [])],
  [(1, []), (1, []), (1, []), (3, [968, 400, 401, 81]), (3, [])],
  [(1, []), (1, []), (1, []), (3, [969, 408, 409, 81]), (2, []), (2, []), (3, [])],
  [(2, []), (1, []), (3, [310]), (3, [194]), (3, [])],
  [(1, []), (1, [])],
  [(1, []), (3, [309]), (1, []), (1, []), (1, []), (1, []), (1, []), (3, [969, 408, 409, 81]), (3, [970, 530, 531, 85]), (3, [])],
  [(1, []), (1, []), (1, []), (1, []), (1, []), (3, [969, 408, 409, 81]), (3, [971, 593, 80]), (3, [])],
  [(1, []), (1, [])],
  [(3, []), (3, [])],
  [(1, []), (1, [])]]
theorem ok_X3_areBooks : am_ck 45 bk_X3_areBooks ck_X3_areBooks = true := am_ckD (by decide +kernel)
theorem ml_X3_areBooks : am_ml 45 = 5 := by decide +kernel
theorem pn_X3_areBooks : plainName (am_y 45).cls = true := by decide +kernel
/-- PaceBorder$Past.startsThatFit(LPaceBorder$Shelf;I)I: number 46, loop heads [1] -/
noncomputable def bl_X3_startsThatFit_0 : am_B := (0, [(.iconst 0, []), (.istore_n 3, []), (.iconst 0, []), (.istore 4, [])], some 1001)
noncomputable def bl_X3_startsThatFit_1 : am_B := (5, [(.iload 4, []), (.aload_n 0, []), (.getfield 9, [3, 0, 2]), (.getfield 52, [2, 0, 0]), (.if_icmp .gt 42, [1005, 2])], none)
noncomputable def bl_X3_startsThatFit_2 : am_B := (17, [(.aload_n 0, []), (.getfield 15, [3, 1, 2]), (.aload_n 0, []), (.getfield 9, [3, 0, 2]), (.iload 4, []), (.aload_n 0, []), (.getfield 25, [3, 3, 2]), (.invokevirtual 55, [26, 3, 1, 0]), (.aload_n 0, []), (.aload_n 1, []), (.iload_n 2, []), (.invokevirtual 59, [47, 2, 3, 1]), (.ifCond .eq 10, [4, 3])], none)
noncomputable def bl_X3_startsThatFit_3 : am_B := (43, [(.iload_n 3, []), (.iconst 1, []), (.iload 4, []), (.ishl, []), (.ior, []), (.istore_n 3, [])], some 4)
noncomputable def bl_X3_startsThatFit_4 : am_B := (50, [(.iinc 4 1, []), (.goto (-48), [1001])], none)
noncomputable def bl_X3_startsThatFit_5 : am_B := (56, [(.iload_n 3, []), (.ireturn, [0])], none)
noncomputable def bk_X3_startsThatFit : List am_B := [bl_X3_startsThatFit_0, bl_X3_startsThatFit_1, bl_X3_startsThatFit_2, bl_X3_startsThatFit_3, bl_X3_startsThatFit_4, bl_X3_startsThatFit_5]
noncomputable def ck_X3_startsThatFit : List (List (Nat × List Nat)) := [[(1, []), (1, []), (1, []), (2, [])],
  [(2, []), (1, []), (3, [309]), (3, [146]), (3, [])],
  [(1, []), (3, [310]), (1, []), (3, [309]), (2, []), (1, []), (3, [312]), (3, [976, 977, 978, 86]), (1, []), (1, []), (1, []), (3, [980, 982, 30, 90]), (3, [])],
  [(1, []), (1, []), (2, []), (1, []), (1, []), (1, [])],
  [(3, []), (3, [])],
  [(1, []), (1, [])]]
theorem ok_X3_startsThatFit : am_ck 46 bk_X3_startsThatFit ck_X3_startsThatFit = true := am_ckD (by decide +kernel)
theorem ml_X3_startsThatFit : am_ml 46 = 5 := by decide +kernel
theorem pn_X3_startsThatFit : plainName (am_y 46).cls = true := by decide +kernel
/-- PaceBorder$Past.fits(LPaceBorder$Shelf;I)Z: number 47, loop heads [1] -/
noncomputable def bl_X3_fits_0 : am_B := (0, [(.iconst 0, []), (.istore_n 3, [])], some 1001)
noncomputable def bl_X3_fits_1 : am_B := (2, [(.iload_n 3, []), (.aload_n 1, []), (.iload_n 2, []), (.invokevirtual 29, [83, 1, 6, 1]), (.if_icmp .ge 47, [1005, 2])], none)
noncomputable def bl_X3_fits_2 : am_B := (11, [(.aload_n 0, []), (.aload_n 1, []), (.iload_n 2, []), (.iload_n 3, []), (.invokevirtual 35, [88, 2, 6, 1]), (.invokevirtual 63, [48, 1, 3, 1]), (.istore 4, []), (.aload_n 1, []), (.iload_n 2, []), (.iload_n 3, []), (.iconst 1, []), (.iadd, []), (.invokevirtual 35, [88, 2, 6, 1]), (.iload 4, []), (.invokestatic 66, [39, 2, 0, 1]), (.aload_n 1, []), (.iload_n 2, []), (.iload_n 3, []), (.iconst 2, []), (.iadd, []), (.invokevirtual 35, [88, 2, 6, 1]), (.if_icmp .eq 5, [4, 3])], none)
noncomputable def bl_X3_fits_3 : am_B := (47, [(.iconst 0, []), (.ireturn, [1])], none)
noncomputable def bl_X3_fits_4 : am_B := (49, [(.iinc 3 3, []), (.goto (-50), [1001])], none)
noncomputable def bl_X3_fits_5 : am_B := (55, [(.iconst 1, []), (.ireturn, [1])], none)
noncomputable def bk_X3_fits : List am_B := [bl_X3_fits_0, bl_X3_fits_1, bl_X3_fits_2, bl_X3_fits_3, bl_X3_fits_4, bl_X3_fits_5]
noncomputable def ck_X3_fits : List (List (Nat × List Nat)) := [[(1, []), (1, [])],
  [(1, []), (1, []), (1, []), (3, [968, 400, 401, 81]), (3, [])],
  [(1, []), (1, []), (1, []), (1, []), (3, [969, 408, 409, 81]), (3, [984, 986, 31, 90]), (2, []), (1, []), (1, []), (1, []), (1, []), (1, []), (3, [969, 408, 409, 81]), (2, []), (3, [988, 547, 85]), (1, []), (1, []), (1, []), (1, []), (1, []), (3, [969, 408, 409, 81]), (3, [])],
  [(1, []), (1, [])],
  [(3, []), (3, [])],
  [(1, []), (1, [])]]
theorem ok_X3_fits : am_ck 47 bk_X3_fits ck_X3_fits = true := am_ckD (by decide +kernel)
theorem ml_X3_fits : am_ml 47 = 5 := by decide +kernel
theorem pn_X3_fits : plainName (am_y 47).cls = true := by decide +kernel
/-- PaceBorder$Past.trailAt(I)I: number 48, loop heads [] -/
noncomputable def bl_X3_trailAt_0 : am_B := (0, [(.iload_n 1, []), (.ifCond .lt 18, [3, 1])], none)
noncomputable def bl_X3_trailAt_1 : am_B := (4, [(.iload_n 1, []), (.bipush 40, []), (.if_icmp .gt 12, [3, 2])], none)
noncomputable def bl_X3_trailAt_2 : am_B := (10, [(.aload_n 0, []), (.getfield 25, [3, 3, 2]), (.iload_n 1, []), (.iaload, []), (.goto 4, [4])], none)
noncomputable def bl_X3_trailAt_3 : am_B := (19, [(.iconst 0, [])], some 4)
noncomputable def bl_X3_trailAt_4 : am_B := (20, [(.ireturn, [0])], none)
noncomputable def bk_X3_trailAt : List am_B := [bl_X3_trailAt_0, bl_X3_trailAt_1, bl_X3_trailAt_2, bl_X3_trailAt_3, bl_X3_trailAt_4]
noncomputable def ck_X3_trailAt : List (List (Nat × List Nat)) := [[(1, []), (3, [])],
  [(1, []), (2, []), (3, [])],
  [(1, []), (3, [312]), (1, []), (1, []), (3, [])],
  [(1, [])],
  [(1, [])]]
theorem ok_X3_trailAt : am_ck 48 bk_X3_trailAt ck_X3_trailAt = true := am_ckD (by decide +kernel)
theorem ml_X3_trailAt : am_ml 48 = 2 := by decide +kernel
theorem pn_X3_trailAt : plainName (am_y 48).cls = true := by decide +kernel
/-- PaceBorder$Past.kindsThatFit(I)I: number 49, loop heads [1] -/
noncomputable def bl_X3_kindsThatFit_0 : am_B := (0, [(.iconst 0, []), (.istore_n 2, []), (.aload_n 0, []), (.getfield 22, [3, 2, 2]), (.aload_n 0, []), (.getfield 9, [3, 0, 2]), (.invokevirtual 69, [31, 1, 2, 0]), (.iconst 0, []), (.istore_n 3, [])], some 1001)
noncomputable def bl_X3_kindsThatFit_1 : am_B := (15, [(.iload_n 3, []), (.bipush 6, []), (.if_icmp .ge 68, [1005, 2])], none)
noncomputable def bl_X3_kindsThatFit_2 : am_B := (21, [(.aload_n 0, []), (.getfield 22, [3, 2, 2]), (.iload_n 1, []), (.iload_n 3, []), (.invokevirtual 73, [32, 2, 2, 0]), (.aload_n 0, []), (.getfield 15, [3, 1, 2]), (.aload_n 0, []), (.getfield 22, [3, 2, 2]), (.aload_n 0, []), (.getfield 15, [3, 1, 2]), (.iconst 0, []), (.invokevirtual 77, [21, 1, 1, 1]), (.aload_n 0, []), (.getfield 25, [3, 3, 2]), (.invokevirtual 55, [26, 3, 1, 0]), (.aload_n 0, []), (.aload_n 0, []), (.getfield 15, [3, 1, 2]), (.getfield 39, [1, 0, 0]), (.invokevirtual 63, [48, 1, 3, 1]), (.aload_n 0, []), (.getfield 15, [3, 1, 2]), (.getfield 80, [1, 1, 0]), (.if_icmp .ne 9, [4, 3])], none)
noncomputable def bl_X3_kindsThatFit_3 : am_B := (74, [(.iload_n 2, []), (.iconst 1, []), (.iload_n 3, []), (.ishl, []), (.ior, []), (.istore_n 2, [])], some 4)
noncomputable def bl_X3_kindsThatFit_4 : am_B := (80, [(.iinc 3 1, []), (.goto (-68), [1001])], none)
noncomputable def bl_X3_kindsThatFit_5 : am_B := (86, [(.iload_n 2, []), (.ireturn, [0])], none)
noncomputable def bk_X3_kindsThatFit : List am_B := [bl_X3_kindsThatFit_0, bl_X3_kindsThatFit_1, bl_X3_kindsThatFit_2, bl_X3_kindsThatFit_3, bl_X3_kindsThatFit_4, bl_X3_kindsThatFit_5]
noncomputable def ck_X3_kindsThatFit : List (List (Nat × List Nat)) := [[(1, []), (1, []), (1, []), (3, [311]), (1, []), (3, [309]), (3, [997, 517, 518, 85]), (1, []), (1, [])],
  [(1, []), (2, []), (3, [])],
  [(1, []), (3, [311]), (1, []), (1, []), (3, [998, 999, 1000, 85]), (1, []), (3, [310]), (1, []), (3, [311]), (1, []), (3, [310]), (1, []), (3, [1002, 561, 562, 86]), (1, []), (3, [312]), (3, [976, 977, 978, 86]), (1, []), (1, []), (3, [310]), (3, [194]), (3, [984, 986, 31, 90]), (1, []), (3, [310]), (3, [202]), (3, [])],
  [(1, []), (1, []), (1, []), (1, []), (1, []), (1, [])],
  [(3, []), (3, [])],
  [(1, []), (1, [])]]
theorem ok_X3_kindsThatFit : am_ck 49 bk_X3_kindsThatFit ck_X3_kindsThatFit = true := am_ckD (by decide +kernel)
theorem ml_X3_kindsThatFit : am_ml 49 = 4 := by decide +kernel
theorem pn_X3_kindsThatFit : plainName (am_y 49).cls = true := by decide +kernel
