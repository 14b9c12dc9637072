section
/-! The law, block by block. -/
noncomputable def lwPc : List Nat := [0, 18, 27, 240, 273, 316, 349, 372, 435, 458, 491, 534, 557, 580, 613, 646, 679, 712, 735, 748, 771, 794, 817, 840, 853, 876, 899, 932, 965, 1008, 1041, 1064, 1107, 1140, 1153, 1186, 1219, 1252, 1285, 1318, 1351, 1384, 1407, 1430, 1463, 1476, 1489, 1502, 1525, 1538, 1561, 1573, 1575, 1581]
noncomputable def lwTp (t : Nat) : Nat := lwPc.getD (if 1000 ≤ t then t - 1000 else t) 0
noncomputable def lwLv (i : Int) : am_Lv := [some (.inr (.inr none)), some (.inr (.inr (some 0))), some (.inr (.inr (some 53))), some (.inl i)]
/-- from block b of the law with the counter i to its end, with true -/
noncomputable def LwB (L : Nat) (xs : Nat → Int) (b : Nat) (i : Int) (M M' : am_M) : Prop := am_At (some (L, xs)) 278 (lwTp b) (lwLv i) [] SH M (some (.inl 1)) SH M'
noncomputable def LwJ (L : Nat) (xs : Nat → Int) (M' : am_M) : Nat → am_N := fun t lv st sh M => am_At (some (L, xs)) 278 (lwTp t) lv st sh M (some (.inl 1)) SH M'
noncomputable def le_0 : List am_E := [(.new 7, [8, 16]), (.dup, []), (.invokespecial 9, [105, 0]), (.astore_n 1, []), (.new 10, [9, 31]), (.dup, []), (.invokespecial 12, [167, 0]), (.astore_n 2, []), (.iconst 0, []), (.istore_n 3, [])]
theorem lk_0 : am_ckB 278 lwTp (lwTp 0) le_0 [(3, [94, 95, 80]), (1, []), (3, [96, 97, 80]), (1, []), (3, [1061, 1062, 91]), (1, []), (3, [1063, 1064, 91]), (1, []), (1, []), (1, [])] (some 1001) = true := am_ckC_e _ _ _ (by decide +kernel)
theorem lg_0 {L : Nat} {xs : Nat → Int} {lv : am_Lv} {st : List am_V} {sh : am_Sh} {M M' : am_M} (h : am_blk (some (L, xs)) (SH.length, am_sl SH) (LwJ L xs M') (fun v1 s1 M1 => v1 = some (.inl 1) ∧ s1 = SH ∧ M1 = M') (some 1001) le_0 lv st sh M) : am_At (some (L, xs)) 278 (lwTp 0) lv st sh M (some (.inl 1)) SH M' :=
  am_blk_e (fun _ _ _ _ _ h => h) le_0 _ _ _ _ _ _ lk_0 h
noncomputable def le_1 : List am_E := [(.iload_n 3, []), (.aload_n 0, []), (.arraylength, []), (.bipush 6, []), (.isub, []), (.if_icmp .gt 1557, [53, 2])]
theorem lk_1 : am_ckB 278 lwTp (lwTp 1) le_1 [(1, []), (1, []), (1, []), (2, []), (1, []), (3, [])] (none) = true := am_ckC_e _ _ _ (by decide +kernel)
theorem lg_1 {L : Nat} {xs : Nat → Int} {lv : am_Lv} {st : List am_V} {sh : am_Sh} {M M' : am_M} (h : am_blk (some (L, xs)) (SH.length, am_sl SH) (LwJ L xs M') (fun v1 s1 M1 => v1 = some (.inl 1) ∧ s1 = SH ∧ M1 = M') (none) le_1 lv st sh M) : am_At (some (L, xs)) 278 (lwTp 1) lv st sh M (some (.inl 1)) SH M' :=
  am_blk_e (fun _ _ _ _ _ h => h) le_1 _ _ _ _ _ _ lk_1 h
noncomputable def le_2 : List am_E := [(.aload_n 0, []), (.iload_n 3, []), (.iaload, []), (.bipush 63, []), (.iand, []), (.tableswitch 1542 0 47 #[207, 240, 283, 316, 339, 402, 425, 458, 501, 524, 547, 580, 613, 646, 679, 702, 715, 738, 761, 784, 807, 820, 843, 866, 899, 932, 975, 1008, 1031, 1074, 1107, 1120, 1153, 1186, 1219, 1252, 1285, 1318, 1351, 1374, 1397, 1430, 1443, 1456, 1469, 1492, 1505, 1528], [52, 3, 4, 5, 6, 7, 8, 9, 10, 11, 12, 13, 14, 15, 16, 17, 18, 19, 20, 21, 22, 23, 24, 25, 26, 27, 28, 29, 30, 31, 32, 33, 34, 35, 36, 37, 38, 39, 40, 41, 42, 43, 44, 45, 46, 47, 48, 49, 50])]
theorem lk_2 : am_ckB 278 lwTp (lwTp 2) le_2 [(1, []), (1, []), (1, []), (2, []), (1, []), (207, [])] (none) = true := am_ckC_e _ _ _ (by decide +kernel)
theorem lg_2 {L : Nat} {xs : Nat → Int} {lv : am_Lv} {st : List am_V} {sh : am_Sh} {M M' : am_M} (h : am_blk (some (L, xs)) (SH.length, am_sl SH) (LwJ L xs M') (fun v1 s1 M1 => v1 = some (.inl 1) ∧ s1 = SH ∧ M1 = M') (none) le_2 lv st sh M) : am_At (some (L, xs)) 278 (lwTp 2) lv st sh M (some (.inl 1)) SH M' :=
  am_blk_e (fun _ _ _ _ _ h => h) le_2 _ _ _ _ _ _ lk_2 h
noncomputable def le_3 : List am_E := [(.aload_n 1, []), (.aload_n 0, []), (.iload_n 3, []), (.iconst 1, []), (.iadd, []), (.iaload, []), (.aload_n 0, []), (.iload_n 3, []), (.iconst 2, []), (.iadd, []), (.iaload, []), (.invokevirtual 13, [106, 2, 8, 1]), (.pop, []), (.aload_n 2, []), (.aload_n 0, []), (.iload_n 3, []), (.iconst 1, []), (.iadd, []), (.iaload, []), (.aload_n 0, []), (.iload_n 3, []), (.iconst 2, []), (.iadd, []), (.iaload, []), (.invokevirtual 17, [174, 2, 9, 1]), (.pop, []), (.goto 1305, [52])]
theorem lk_3 : am_ckB 278 lwTp (lwTp 3) le_3 [(1, []), (1, []), (1, []), (1, []), (1, []), (1, []), (1, []), (1, []), (1, []), (1, []), (1, []), (3, [371, 372, 373, 80]), (1, []), (1, []), (1, []), (1, []), (1, []), (1, []), (1, []), (1, []), (1, []), (1, []), (1, []), (1, []), (3, [1161, 1162, 1163, 91]), (1, []), (3, [])] (none) = true := am_ckC_e _ _ _ (by decide +kernel)
theorem lg_3 {L : Nat} {xs : Nat → Int} {lv : am_Lv} {st : List am_V} {sh : am_Sh} {M M' : am_M} (h : am_blk (some (L, xs)) (SH.length, am_sl SH) (LwJ L xs M') (fun v1 s1 M1 => v1 = some (.inl 1) ∧ s1 = SH ∧ M1 = M') (none) le_3 lv st sh M) : am_At (some (L, xs)) 278 (lwTp 3) lv st sh M (some (.inl 1)) SH M' :=
  am_blk_e (fun _ _ _ _ _ h => h) le_3 _ _ _ _ _ _ lk_3 h
noncomputable def le_4 : List am_E := [(.aload_n 1, []), (.aload_n 0, []), (.iload_n 3, []), (.iconst 1, []), (.iadd, []), (.iaload, []), (.aload_n 0, []), (.iload_n 3, []), (.iconst 2, []), (.iadd, []), (.iaload, []), (.aload_n 0, []), (.iload_n 3, []), (.iconst 3, []), (.iadd, []), (.iaload, []), (.invokevirtual 18, [107, 3, 8, 1]), (.pop, []), (.aload_n 2, []), (.aload_n 0, []), (.iload_n 3, []), (.iconst 1, []), (.iadd, []), (.iaload, []), (.aload_n 0, []), (.iload_n 3, []), (.iconst 2, []), (.iadd, []), (.iaload, []), (.aload_n 0, []), (.iload_n 3, []), (.iconst 3, []), (.iadd, []), (.iaload, []), (.invokevirtual 22, [177, 3, 9, 1]), (.pop, []), (.goto 1262, [52])]
theorem lk_4 : am_ckB 278 lwTp (lwTp 4) le_4 [(1, []), (1, []), (1, []), (1, []), (1, []), (1, []), (1, []), (1, []), (1, []), (1, []), (1, []), (1, []), (1, []), (1, []), (1, []), (1, []), (3, [388, 389, 390, 80]), (1, []), (1, []), (1, []), (1, []), (1, []), (1, []), (1, []), (1, []), (1, []), (1, []), (1, []), (1, []), (1, []), (1, []), (1, []), (1, []), (1, []), (3, [1180, 1181, 1182, 91]), (1, []), (3, [])] (none) = true := am_ckC_e _ _ _ (by decide +kernel)
theorem lg_4 {L : Nat} {xs : Nat → Int} {lv : am_Lv} {st : List am_V} {sh : am_Sh} {M M' : am_M} (h : am_blk (some (L, xs)) (SH.length, am_sl SH) (LwJ L xs M') (fun v1 s1 M1 => v1 = some (.inl 1) ∧ s1 = SH ∧ M1 = M') (none) le_4 lv st sh M) : am_At (some (L, xs)) 278 (lwTp 4) lv st sh M (some (.inl 1)) SH M' :=
  am_blk_e (fun _ _ _ _ _ h => h) le_4 _ _ _ _ _ _ lk_4 h
noncomputable def le_5 : List am_E := [(.aload_n 1, []), (.aload_n 0, []), (.iload_n 3, []), (.iconst 1, []), (.iadd, []), (.iaload, []), (.aload_n 0, []), (.iload_n 3, []), (.iconst 2, []), (.iadd, []), (.iaload, []), (.invokevirtual 23, [108, 2, 8, 1]), (.pop, []), (.aload_n 2, []), (.aload_n 0, []), (.iload_n 3, []), (.iconst 1, []), (.iadd, []), (.iaload, []), (.aload_n 0, []), (.iload_n 3, []), (.iconst 2, []), (.iadd, []), (.iaload, []), (.invokevirtual 26, [178, 2, 9, 1]), (.pop, []), (.goto 1229, [52])]
theorem lk_5 : am_ckB 278 lwTp (lwTp 5) le_5 [(1, []), (1, []), (1, []), (1, []), (1, []), (1, []), (1, []), (1, []), (1, []), (1, []), (1, []), (3, [420, 421, 422, 80]), (1, []), (1, []), (1, []), (1, []), (1, []), (1, []), (1, []), (1, []), (1, []), (1, []), (1, []), (1, []), (3, [1192, 1193, 1194, 91]), (1, []), (3, [])] (none) = true := am_ckC_e _ _ _ (by decide +kernel)
theorem lg_5 {L : Nat} {xs : Nat → Int} {lv : am_Lv} {st : List am_V} {sh : am_Sh} {M M' : am_M} (h : am_blk (some (L, xs)) (SH.length, am_sl SH) (LwJ L xs M') (fun v1 s1 M1 => v1 = some (.inl 1) ∧ s1 = SH ∧ M1 = M') (none) le_5 lv st sh M) : am_At (some (L, xs)) 278 (lwTp 5) lv st sh M (some (.inl 1)) SH M' :=
  am_blk_e (fun _ _ _ _ _ h => h) le_5 _ _ _ _ _ _ lk_5 h
noncomputable def le_6 : List am_E := [(.aload_n 1, []), (.aload_n 0, []), (.iload_n 3, []), (.iconst 1, []), (.iadd, []), (.iaload, []), (.invokevirtual 27, [109, 1, 8, 1]), (.pop, []), (.aload_n 2, []), (.aload_n 0, []), (.iload_n 3, []), (.iconst 1, []), (.iadd, []), (.iaload, []), (.invokevirtual 31, [179, 1, 9, 1]), (.pop, []), (.goto 1206, [52])]
theorem lk_6 : am_ckB 278 lwTp (lwTp 6) le_6 [(1, []), (1, []), (1, []), (1, []), (1, []), (1, []), (3, [424, 425, 426, 80]), (1, []), (1, []), (1, []), (1, []), (1, []), (1, []), (1, []), (3, [1196, 1197, 1198, 91]), (1, []), (3, [])] (none) = true := am_ckC_e _ _ _ (by decide +kernel)
theorem lg_6 {L : Nat} {xs : Nat → Int} {lv : am_Lv} {st : List am_V} {sh : am_Sh} {M M' : am_M} (h : am_blk (some (L, xs)) (SH.length, am_sl SH) (LwJ L xs M') (fun v1 s1 M1 => v1 = some (.inl 1) ∧ s1 = SH ∧ M1 = M') (none) le_6 lv st sh M) : am_At (some (L, xs)) 278 (lwTp 6) lv st sh M (some (.inl 1)) SH M' :=
  am_blk_e (fun _ _ _ _ _ h => h) le_6 _ _ _ _ _ _ lk_6 h
noncomputable def le_7 : List am_E := [(.aload_n 1, []), (.aload_n 0, []), (.iload_n 3, []), (.iconst 1, []), (.iadd, []), (.iaload, []), (.aload_n 0, []), (.iload_n 3, []), (.iconst 2, []), (.iadd, []), (.iaload, []), (.aload_n 0, []), (.iload_n 3, []), (.iconst 3, []), (.iadd, []), (.iaload, []), (.aload_n 0, []), (.iload_n 3, []), (.iconst 4, []), (.iadd, []), (.iaload, []), (.aload_n 0, []), (.iload_n 3, []), (.iconst 5, []), (.iadd, []), (.iaload, []), (.invokevirtual 32, [110, 5, 8, 1]), (.pop, []), (.aload_n 2, []), (.aload_n 0, []), (.iload_n 3, []), (.iconst 1, []), (.iadd, []), (.iaload, []), (.aload_n 0, []), (.iload_n 3, []), (.iconst 2, []), (.iadd, []), (.iaload, []), (.aload_n 0, []), (.iload_n 3, []), (.iconst 3, []), (.iadd, []), (.iaload, []), (.aload_n 0, []), (.iload_n 3, []), (.iconst 4, []), (.iadd, []), (.iaload, []), (.aload_n 0, []), (.iload_n 3, []), (.iconst 5, []), (.iadd, []), (.iaload, []), (.invokevirtual 36, [181, 5, 9, 1]), (.pop, []), (.goto 1143, [52])]
theorem lk_7 : am_ckB 278 lwTp (lwTp 7) le_7 [(1, []), (1, []), (1, []), (1, []), (1, []), (1, []), (1, []), (1, []), (1, []), (1, []), (1, []), (1, []), (1, []), (1, []), (1, []), (1, []), (1, []), (1, []), (1, []), (1, []), (1, []), (1, []), (1, []), (1, []), (1, []), (1, []), (3, [432, 433, 434, 80]), (1, []), (1, []), (1, []), (1, []), (1, []), (1, []), (1, []), (1, []), (1, []), (1, []), (1, []), (1, []), (1, []), (1, []), (1, []), (1, []), (1, []), (1, []), (1, []), (1, []), (1, []), (1, []), (1, []), (1, []), (1, []), (1, []), (1, []), (3, [1200, 1201, 1202, 91]), (1, []), (3, [])] (none) = true := am_ckC_e _ _ _ (by decide +kernel)
theorem lg_7 {L : Nat} {xs : Nat → Int} {lv : am_Lv} {st : List am_V} {sh : am_Sh} {M M' : am_M} (h : am_blk (some (L, xs)) (SH.length, am_sl SH) (LwJ L xs M') (fun v1 s1 M1 => v1 = some (.inl 1) ∧ s1 = SH ∧ M1 = M') (none) le_7 lv st sh M) : am_At (some (L, xs)) 278 (lwTp 7) lv st sh M (some (.inl 1)) SH M' :=
  am_blk_e (fun _ _ _ _ _ h => h) le_7 _ _ _ _ _ _ lk_7 h
noncomputable def le_8 : List am_E := [(.aload_n 1, []), (.aload_n 0, []), (.iload_n 3, []), (.iconst 1, []), (.iadd, []), (.iaload, []), (.invokevirtual 37, [111, 1, 8, 1]), (.pop, []), (.aload_n 2, []), (.aload_n 0, []), (.iload_n 3, []), (.iconst 1, []), (.iadd, []), (.iaload, []), (.invokevirtual 40, [182, 1, 9, 1]), (.pop, []), (.goto 1120, [52])]
theorem lk_8 : am_ckB 278 lwTp (lwTp 8) le_8 [(1, []), (1, []), (1, []), (1, []), (1, []), (1, []), (3, [448, 449, 450, 80]), (1, []), (1, []), (1, []), (1, []), (1, []), (1, []), (1, []), (3, [1208, 1209, 1210, 91]), (1, []), (3, [])] (none) = true := am_ckC_e _ _ _ (by decide +kernel)
theorem lg_8 {L : Nat} {xs : Nat → Int} {lv : am_Lv} {st : List am_V} {sh : am_Sh} {M M' : am_M} (h : am_blk (some (L, xs)) (SH.length, am_sl SH) (LwJ L xs M') (fun v1 s1 M1 => v1 = some (.inl 1) ∧ s1 = SH ∧ M1 = M') (none) le_8 lv st sh M) : am_At (some (L, xs)) 278 (lwTp 8) lv st sh M (some (.inl 1)) SH M' :=
  am_blk_e (fun _ _ _ _ _ h => h) le_8 _ _ _ _ _ _ lk_8 h
noncomputable def le_9 : List am_E := [(.aload_n 1, []), (.aload_n 0, []), (.iload_n 3, []), (.iconst 1, []), (.iadd, []), (.iaload, []), (.aload_n 0, []), (.iload_n 3, []), (.iconst 2, []), (.iadd, []), (.iaload, []), (.invokevirtual 41, [112, 2, 8, 1]), (.pop, []), (.aload_n 2, []), (.aload_n 0, []), (.iload_n 3, []), (.iconst 1, []), (.iadd, []), (.iaload, []), (.aload_n 0, []), (.iload_n 3, []), (.iconst 2, []), (.iadd, []), (.iaload, []), (.invokevirtual 44, [183, 2, 9, 1]), (.pop, []), (.goto 1087, [52])]
theorem lk_9 : am_ckB 278 lwTp (lwTp 9) le_9 [(1, []), (1, []), (1, []), (1, []), (1, []), (1, []), (1, []), (1, []), (1, []), (1, []), (1, []), (3, [458, 459, 460, 80]), (1, []), (1, []), (1, []), (1, []), (1, []), (1, []), (1, []), (1, []), (1, []), (1, []), (1, []), (1, []), (3, [1212, 1213, 1214, 91]), (1, []), (3, [])] (none) = true := am_ckC_e _ _ _ (by decide +kernel)
theorem lg_9 {L : Nat} {xs : Nat → Int} {lv : am_Lv} {st : List am_V} {sh : am_Sh} {M M' : am_M} (h : am_blk (some (L, xs)) (SH.length, am_sl SH) (LwJ L xs M') (fun v1 s1 M1 => v1 = some (.inl 1) ∧ s1 = SH ∧ M1 = M') (none) le_9 lv st sh M) : am_At (some (L, xs)) 278 (lwTp 9) lv st sh M (some (.inl 1)) SH M' :=
  am_blk_e (fun _ _ _ _ _ h => h) le_9 _ _ _ _ _ _ lk_9 h
noncomputable def le_10 : List am_E := [(.aload_n 1, []), (.aload_n 0, []), (.iload_n 3, []), (.iconst 1, []), (.iadd, []), (.iaload, []), (.aload_n 0, []), (.iload_n 3, []), (.iconst 2, []), (.iadd, []), (.iaload, []), (.aload_n 0, []), (.iload_n 3, []), (.iconst 3, []), (.iadd, []), (.iaload, []), (.invokevirtual 45, [113, 3, 8, 1]), (.pop, []), (.aload_n 2, []), (.aload_n 0, []), (.iload_n 3, []), (.iconst 1, []), (.iadd, []), (.iaload, []), (.aload_n 0, []), (.iload_n 3, []), (.iconst 2, []), (.iadd, []), (.iaload, []), (.aload_n 0, []), (.iload_n 3, []), (.iconst 3, []), (.iadd, []), (.iaload, []), (.invokevirtual 48, [184, 3, 9, 1]), (.pop, []), (.goto 1044, [52])]
theorem lk_10 : am_ckB 278 lwTp (lwTp 10) le_10 [(1, []), (1, []), (1, []), (1, []), (1, []), (1, []), (1, []), (1, []), (1, []), (1, []), (1, []), (1, []), (1, []), (1, []), (1, []), (1, []), (3, [462, 463, 464, 80]), (1, []), (1, []), (1, []), (1, []), (1, []), (1, []), (1, []), (1, []), (1, []), (1, []), (1, []), (1, []), (1, []), (1, []), (1, []), (1, []), (1, []), (3, [1220, 1221, 1222, 91]), (1, []), (3, [])] (none) = true := am_ckC_e _ _ _ (by decide +kernel)
theorem lg_10 {L : Nat} {xs : Nat → Int} {lv : am_Lv} {st : List am_V} {sh : am_Sh} {M M' : am_M} (h : am_blk (some (L, xs)) (SH.length, am_sl SH) (LwJ L xs M') (fun v1 s1 M1 => v1 = some (.inl 1) ∧ s1 = SH ∧ M1 = M') (none) le_10 lv st sh M) : am_At (some (L, xs)) 278 (lwTp 10) lv st sh M (some (.inl 1)) SH M' :=
  am_blk_e (fun _ _ _ _ _ h => h) le_10 _ _ _ _ _ _ lk_10 h
noncomputable def le_11 : List am_E := [(.aload_n 1, []), (.aload_n 0, []), (.iload_n 3, []), (.iconst 1, []), (.iadd, []), (.iaload, []), (.invokevirtual 49, [114, 1, 8, 1]), (.pop, []), (.aload_n 2, []), (.aload_n 0, []), (.iload_n 3, []), (.iconst 1, []), (.iadd, []), (.iaload, []), (.invokevirtual 52, [192, 1, 9, 1]), (.pop, []), (.goto 1021, [52])]
theorem lk_11 : am_ckB 278 lwTp (lwTp 11) le_11 [(1, []), (1, []), (1, []), (1, []), (1, []), (1, []), (3, [466, 467, 468, 80]), (1, []), (1, []), (1, []), (1, []), (1, []), (1, []), (1, []), (3, [1224, 1225, 1226, 91]), (1, []), (3, [])] (none) = true := am_ckC_e _ _ _ (by decide +kernel)
theorem lg_11 {L : Nat} {xs : Nat → Int} {lv : am_Lv} {st : List am_V} {sh : am_Sh} {M M' : am_M} (h : am_blk (some (L, xs)) (SH.length, am_sl SH) (LwJ L xs M') (fun v1 s1 M1 => v1 = some (.inl 1) ∧ s1 = SH ∧ M1 = M') (none) le_11 lv st sh M) : am_At (some (L, xs)) 278 (lwTp 11) lv st sh M (some (.inl 1)) SH M' :=
  am_blk_e (fun _ _ _ _ _ h => h) le_11 _ _ _ _ _ _ lk_11 h
noncomputable def le_12 : List am_E := [(.aload_n 1, []), (.aload_n 0, []), (.iload_n 3, []), (.iconst 1, []), (.iadd, []), (.iaload, []), (.invokevirtual 53, [115, 1, 8, 1]), (.pop, []), (.aload_n 2, []), (.aload_n 0, []), (.iload_n 3, []), (.iconst 1, []), (.iadd, []), (.iaload, []), (.invokevirtual 56, [193, 1, 9, 1]), (.pop, []), (.goto 998, [52])]
theorem lk_12 : am_ckB 278 lwTp (lwTp 12) le_12 [(1, []), (1, []), (1, []), (1, []), (1, []), (1, []), (3, [512, 513, 514, 80]), (1, []), (1, []), (1, []), (1, []), (1, []), (1, []), (1, []), (3, [1256, 1257, 1258, 91]), (1, []), (3, [])] (none) = true := am_ckC_e _ _ _ (by decide +kernel)
theorem lg_12 {L : Nat} {xs : Nat → Int} {lv : am_Lv} {st : List am_V} {sh : am_Sh} {M M' : am_M} (h : am_blk (some (L, xs)) (SH.length, am_sl SH) (LwJ L xs M') (fun v1 s1 M1 => v1 = some (.inl 1) ∧ s1 = SH ∧ M1 = M') (none) le_12 lv st sh M) : am_At (some (L, xs)) 278 (lwTp 12) lv st sh M (some (.inl 1)) SH M' :=
  am_blk_e (fun _ _ _ _ _ h => h) le_12 _ _ _ _ _ _ lk_12 h
noncomputable def le_13 : List am_E := [(.aload_n 1, []), (.aload_n 0, []), (.iload_n 3, []), (.iconst 1, []), (.iadd, []), (.iaload, []), (.aload_n 0, []), (.iload_n 3, []), (.iconst 2, []), (.iadd, []), (.iaload, []), (.invokevirtual 57, [116, 2, 8, 1]), (.pop, []), (.aload_n 2, []), (.aload_n 0, []), (.iload_n 3, []), (.iconst 1, []), (.iadd, []), (.iaload, []), (.aload_n 0, []), (.iload_n 3, []), (.iconst 2, []), (.iadd, []), (.iaload, []), (.invokevirtual 60, [201, 2, 9, 1]), (.pop, []), (.goto 965, [52])]
theorem lk_13 : am_ckB 278 lwTp (lwTp 13) le_13 [(1, []), (1, []), (1, []), (1, []), (1, []), (1, []), (1, []), (1, []), (1, []), (1, []), (1, []), (3, [525, 526, 527, 80]), (1, []), (1, []), (1, []), (1, []), (1, []), (1, []), (1, []), (1, []), (1, []), (1, []), (1, []), (1, []), (3, [1260, 1261, 1262, 91]), (1, []), (3, [])] (none) = true := am_ckC_e _ _ _ (by decide +kernel)
theorem lg_13 {L : Nat} {xs : Nat → Int} {lv : am_Lv} {st : List am_V} {sh : am_Sh} {M M' : am_M} (h : am_blk (some (L, xs)) (SH.length, am_sl SH) (LwJ L xs M') (fun v1 s1 M1 => v1 = some (.inl 1) ∧ s1 = SH ∧ M1 = M') (none) le_13 lv st sh M) : am_At (some (L, xs)) 278 (lwTp 13) lv st sh M (some (.inl 1)) SH M' :=
  am_blk_e (fun _ _ _ _ _ h => h) le_13 _ _ _ _ _ _ lk_13 h
noncomputable def le_14 : List am_E := [(.aload_n 1, []), (.aload_n 0, []), (.iload_n 3, []), (.iconst 1, []), (.iadd, []), (.iaload, []), (.aload_n 0, []), (.iload_n 3, []), (.iconst 2, []), (.iadd, []), (.iaload, []), (.invokevirtual 61, [117, 2, 8, 1]), (.pop, []), (.aload_n 2, []), (.aload_n 0, []), (.iload_n 3, []), (.iconst 1, []), (.iadd, []), (.iaload, []), (.aload_n 0, []), (.iload_n 3, []), (.iconst 2, []), (.iadd, []), (.iaload, []), (.invokevirtual 64, [205, 2, 9, 1]), (.pop, []), (.goto 932, [52])]
theorem lk_14 : am_ckB 278 lwTp (lwTp 14) le_14 [(1, []), (1, []), (1, []), (1, []), (1, []), (1, []), (1, []), (1, []), (1, []), (1, []), (1, []), (3, [565, 566, 567, 80]), (1, []), (1, []), (1, []), (1, []), (1, []), (1, []), (1, []), (1, []), (1, []), (1, []), (1, []), (1, []), (3, [1272, 1273, 1274, 91]), (1, []), (3, [])] (none) = true := am_ckC_e _ _ _ (by decide +kernel)
theorem lg_14 {L : Nat} {xs : Nat → Int} {lv : am_Lv} {st : List am_V} {sh : am_Sh} {M M' : am_M} (h : am_blk (some (L, xs)) (SH.length, am_sl SH) (LwJ L xs M') (fun v1 s1 M1 => v1 = some (.inl 1) ∧ s1 = SH ∧ M1 = M') (none) le_14 lv st sh M) : am_At (some (L, xs)) 278 (lwTp 14) lv st sh M (some (.inl 1)) SH M' :=
  am_blk_e (fun _ _ _ _ _ h => h) le_14 _ _ _ _ _ _ lk_14 h
noncomputable def le_15 : List am_E := [(.aload_n 1, []), (.aload_n 0, []), (.iload_n 3, []), (.iconst 1, []), (.iadd, []), (.iaload, []), (.aload_n 0, []), (.iload_n 3, []), (.iconst 2, []), (.iadd, []), (.iaload, []), (.invokevirtual 65, [118, 2, 8, 1]), (.pop, []), (.aload_n 2, []), (.aload_n 0, []), (.iload_n 3, []), (.iconst 1, []), (.iadd, []), (.iaload, []), (.aload_n 0, []), (.iload_n 3, []), (.iconst 2, []), (.iadd, []), (.iaload, []), (.invokevirtual 68, [206, 2, 9, 1]), (.pop, []), (.goto 899, [52])]
theorem lk_15 : am_ckB 278 lwTp (lwTp 15) le_15 [(1, []), (1, []), (1, []), (1, []), (1, []), (1, []), (1, []), (1, []), (1, []), (1, []), (1, []), (3, [588, 589, 590, 80]), (1, []), (1, []), (1, []), (1, []), (1, []), (1, []), (1, []), (1, []), (1, []), (1, []), (1, []), (1, []), (3, [1291, 1292, 1293, 91]), (1, []), (3, [])] (none) = true := am_ckC_e _ _ _ (by decide +kernel)
theorem lg_15 {L : Nat} {xs : Nat → Int} {lv : am_Lv} {st : List am_V} {sh : am_Sh} {M M' : am_M} (h : am_blk (some (L, xs)) (SH.length, am_sl SH) (LwJ L xs M') (fun v1 s1 M1 => v1 = some (.inl 1) ∧ s1 = SH ∧ M1 = M') (none) le_15 lv st sh M) : am_At (some (L, xs)) 278 (lwTp 15) lv st sh M (some (.inl 1)) SH M' :=
  am_blk_e (fun _ _ _ _ _ h => h) le_15 _ _ _ _ _ _ lk_15 h
noncomputable def le_16 : List am_E := [(.aload_n 1, []), (.aload_n 0, []), (.iload_n 3, []), (.iconst 1, []), (.iadd, []), (.iaload, []), (.aload_n 0, []), (.iload_n 3, []), (.iconst 2, []), (.iadd, []), (.iaload, []), (.invokevirtual 69, [119, 2, 8, 1]), (.pop, []), (.aload_n 2, []), (.aload_n 0, []), (.iload_n 3, []), (.iconst 1, []), (.iadd, []), (.iaload, []), (.aload_n 0, []), (.iload_n 3, []), (.iconst 2, []), (.iadd, []), (.iaload, []), (.invokevirtual 72, [208, 2, 9, 1]), (.pop, []), (.goto 866, [52])]
theorem lk_16 : am_ckB 278 lwTp (lwTp 16) le_16 [(1, []), (1, []), (1, []), (1, []), (1, []), (1, []), (1, []), (1, []), (1, []), (1, []), (1, []), (3, [607, 608, 609, 80]), (1, []), (1, []), (1, []), (1, []), (1, []), (1, []), (1, []), (1, []), (1, []), (1, []), (1, []), (1, []), (3, [1296, 1297, 1298, 91]), (1, []), (3, [])] (none) = true := am_ckC_e _ _ _ (by decide +kernel)
theorem lg_16 {L : Nat} {xs : Nat → Int} {lv : am_Lv} {st : List am_V} {sh : am_Sh} {M M' : am_M} (h : am_blk (some (L, xs)) (SH.length, am_sl SH) (LwJ L xs M') (fun v1 s1 M1 => v1 = some (.inl 1) ∧ s1 = SH ∧ M1 = M') (none) le_16 lv st sh M) : am_At (some (L, xs)) 278 (lwTp 16) lv st sh M (some (.inl 1)) SH M' :=
  am_blk_e (fun _ _ _ _ _ h => h) le_16 _ _ _ _ _ _ lk_16 h
noncomputable def le_17 : List am_E := [(.aload_n 1, []), (.aload_n 0, []), (.iload_n 3, []), (.iconst 1, []), (.iadd, []), (.iaload, []), (.invokevirtual 73, [120, 1, 8, 1]), (.pop, []), (.aload_n 2, []), (.aload_n 0, []), (.iload_n 3, []), (.iconst 1, []), (.iadd, []), (.iaload, []), (.invokevirtual 76, [211, 1, 9, 1]), (.pop, []), (.goto 843, [52])]
theorem lk_17 : am_ckB 278 lwTp (lwTp 17) le_17 [(1, []), (1, []), (1, []), (1, []), (1, []), (1, []), (3, [637, 638, 639, 80]), (1, []), (1, []), (1, []), (1, []), (1, []), (1, []), (1, []), (3, [1317, 1318, 1319, 91]), (1, []), (3, [])] (none) = true := am_ckC_e _ _ _ (by decide +kernel)
theorem lg_17 {L : Nat} {xs : Nat → Int} {lv : am_Lv} {st : List am_V} {sh : am_Sh} {M M' : am_M} (h : am_blk (some (L, xs)) (SH.length, am_sl SH) (LwJ L xs M') (fun v1 s1 M1 => v1 = some (.inl 1) ∧ s1 = SH ∧ M1 = M') (none) le_17 lv st sh M) : am_At (some (L, xs)) 278 (lwTp 17) lv st sh M (some (.inl 1)) SH M' :=
  am_blk_e (fun _ _ _ _ _ h => h) le_17 _ _ _ _ _ _ lk_17 h
noncomputable def le_18 : List am_E := [(.aload_n 1, []), (.invokevirtual 77, [121, 0, 8, 1]), (.pop, []), (.aload_n 2, []), (.invokevirtual 81, [212, 0, 9, 1]), (.pop, []), (.goto 830, [52])]
theorem lk_18 : am_ckB 278 lwTp (lwTp 18) le_18 [(1, []), (3, [645, 646, 647, 80]), (1, []), (1, []), (3, [1329, 1330, 1331, 91]), (1, []), (3, [])] (none) = true := am_ckC_e _ _ _ (by decide +kernel)
theorem lg_18 {L : Nat} {xs : Nat → Int} {lv : am_Lv} {st : List am_V} {sh : am_Sh} {M M' : am_M} (h : am_blk (some (L, xs)) (SH.length, am_sl SH) (LwJ L xs M') (fun v1 s1 M1 => v1 = some (.inl 1) ∧ s1 = SH ∧ M1 = M') (none) le_18 lv st sh M) : am_At (some (L, xs)) 278 (lwTp 18) lv st sh M (some (.inl 1)) SH M' :=
  am_blk_e (fun _ _ _ _ _ h => h) le_18 _ _ _ _ _ _ lk_18 h
noncomputable def le_19 : List am_E := [(.aload_n 1, []), (.aload_n 0, []), (.iload_n 3, []), (.iconst 1, []), (.iadd, []), (.iaload, []), (.invokevirtual 82, [122, 1, 8, 1]), (.pop, []), (.aload_n 2, []), (.aload_n 0, []), (.iload_n 3, []), (.iconst 1, []), (.iadd, []), (.iaload, []), (.invokevirtual 85, [213, 1, 9, 1]), (.pop, []), (.goto 807, [52])]
theorem lk_19 : am_ckB 278 lwTp (lwTp 19) le_19 [(1, []), (1, []), (1, []), (1, []), (1, []), (1, []), (3, [649, 650, 651, 80]), (1, []), (1, []), (1, []), (1, []), (1, []), (1, []), (1, []), (3, [1333, 1334, 1335, 91]), (1, []), (3, [])] (none) = true := am_ckC_e _ _ _ (by decide +kernel)
theorem lg_19 {L : Nat} {xs : Nat → Int} {lv : am_Lv} {st : List am_V} {sh : am_Sh} {M M' : am_M} (h : am_blk (some (L, xs)) (SH.length, am_sl SH) (LwJ L xs M') (fun v1 s1 M1 => v1 = some (.inl 1) ∧ s1 = SH ∧ M1 = M') (none) le_19 lv st sh M) : am_At (some (L, xs)) 278 (lwTp 19) lv st sh M (some (.inl 1)) SH M' :=
  am_blk_e (fun _ _ _ _ _ h => h) le_19 _ _ _ _ _ _ lk_19 h
noncomputable def le_20 : List am_E := [(.aload_n 1, []), (.aload_n 0, []), (.iload_n 3, []), (.iconst 1, []), (.iadd, []), (.iaload, []), (.invokevirtual 86, [123, 1, 8, 1]), (.pop, []), (.aload_n 2, []), (.aload_n 0, []), (.iload_n 3, []), (.iconst 1, []), (.iadd, []), (.iaload, []), (.invokevirtual 89, [214, 1, 9, 1]), (.pop, []), (.goto 784, [52])]
theorem lk_20 : am_ckB 278 lwTp (lwTp 20) le_20 [(1, []), (1, []), (1, []), (1, []), (1, []), (1, []), (3, [654, 655, 656, 80]), (1, []), (1, []), (1, []), (1, []), (1, []), (1, []), (1, []), (3, [1337, 1338, 1339, 91]), (1, []), (3, [])] (none) = true := am_ckC_e _ _ _ (by decide +kernel)
theorem lg_20 {L : Nat} {xs : Nat → Int} {lv : am_Lv} {st : List am_V} {sh : am_Sh} {M M' : am_M} (h : am_blk (some (L, xs)) (SH.length, am_sl SH) (LwJ L xs M') (fun v1 s1 M1 => v1 = some (.inl 1) ∧ s1 = SH ∧ M1 = M') (none) le_20 lv st sh M) : am_At (some (L, xs)) 278 (lwTp 20) lv st sh M (some (.inl 1)) SH M' :=
  am_blk_e (fun _ _ _ _ _ h => h) le_20 _ _ _ _ _ _ lk_20 h
noncomputable def le_21 : List am_E := [(.aload_n 1, []), (.aload_n 0, []), (.iload_n 3, []), (.iconst 1, []), (.iadd, []), (.iaload, []), (.invokevirtual 90, [124, 1, 8, 1]), (.pop, []), (.aload_n 2, []), (.aload_n 0, []), (.iload_n 3, []), (.iconst 1, []), (.iadd, []), (.iaload, []), (.invokevirtual 93, [215, 1, 9, 1]), (.pop, []), (.goto 761, [52])]
theorem lk_21 : am_ckB 278 lwTp (lwTp 21) le_21 [(1, []), (1, []), (1, []), (1, []), (1, []), (1, []), (3, [658, 659, 660, 80]), (1, []), (1, []), (1, []), (1, []), (1, []), (1, []), (1, []), (3, [1341, 1342, 1343, 91]), (1, []), (3, [])] (none) = true := am_ckC_e _ _ _ (by decide +kernel)
theorem lg_21 {L : Nat} {xs : Nat → Int} {lv : am_Lv} {st : List am_V} {sh : am_Sh} {M M' : am_M} (h : am_blk (some (L, xs)) (SH.length, am_sl SH) (LwJ L xs M') (fun v1 s1 M1 => v1 = some (.inl 1) ∧ s1 = SH ∧ M1 = M') (none) le_21 lv st sh M) : am_At (some (L, xs)) 278 (lwTp 21) lv st sh M (some (.inl 1)) SH M' :=
  am_blk_e (fun _ _ _ _ _ h => h) le_21 _ _ _ _ _ _ lk_21 h
noncomputable def le_22 : List am_E := [(.aload_n 1, []), (.aload_n 0, []), (.iload_n 3, []), (.iconst 1, []), (.iadd, []), (.iaload, []), (.invokevirtual 94, [125, 1, 8, 1]), (.pop, []), (.aload_n 2, []), (.aload_n 0, []), (.iload_n 3, []), (.iconst 1, []), (.iadd, []), (.iaload, []), (.invokevirtual 97, [216, 1, 9, 1]), (.pop, []), (.goto 738, [52])]
theorem lk_22 : am_ckB 278 lwTp (lwTp 22) le_22 [(1, []), (1, []), (1, []), (1, []), (1, []), (1, []), (3, [666, 667, 668, 80]), (1, []), (1, []), (1, []), (1, []), (1, []), (1, []), (1, []), (3, [1346, 1347, 1348, 91]), (1, []), (3, [])] (none) = true := am_ckC_e _ _ _ (by decide +kernel)
theorem lg_22 {L : Nat} {xs : Nat → Int} {lv : am_Lv} {st : List am_V} {sh : am_Sh} {M M' : am_M} (h : am_blk (some (L, xs)) (SH.length, am_sl SH) (LwJ L xs M') (fun v1 s1 M1 => v1 = some (.inl 1) ∧ s1 = SH ∧ M1 = M') (none) le_22 lv st sh M) : am_At (some (L, xs)) 278 (lwTp 22) lv st sh M (some (.inl 1)) SH M' :=
  am_blk_e (fun _ _ _ _ _ h => h) le_22 _ _ _ _ _ _ lk_22 h
noncomputable def le_23 : List am_E := [(.aload_n 1, []), (.invokevirtual 98, [126, 0, 8, 1]), (.pop, []), (.aload_n 2, []), (.invokevirtual 101, [220, 0, 9, 1]), (.pop, []), (.goto 725, [52])]
theorem lk_23 : am_ckB 278 lwTp (lwTp 23) le_23 [(1, []), (3, [670, 671, 672, 80]), (1, []), (1, []), (3, [1350, 1351, 1352, 91]), (1, []), (3, [])] (none) = true := am_ckC_e _ _ _ (by decide +kernel)
theorem lg_23 {L : Nat} {xs : Nat → Int} {lv : am_Lv} {st : List am_V} {sh : am_Sh} {M M' : am_M} (h : am_blk (some (L, xs)) (SH.length, am_sl SH) (LwJ L xs M') (fun v1 s1 M1 => v1 = some (.inl 1) ∧ s1 = SH ∧ M1 = M') (none) le_23 lv st sh M) : am_At (some (L, xs)) 278 (lwTp 23) lv st sh M (some (.inl 1)) SH M' :=
  am_blk_e (fun _ _ _ _ _ h => h) le_23 _ _ _ _ _ _ lk_23 h
noncomputable def le_24 : List am_E := [(.aload_n 1, []), (.aload_n 0, []), (.iload_n 3, []), (.iconst 1, []), (.iadd, []), (.iaload, []), (.invokevirtual 102, [127, 1, 8, 1]), (.pop, []), (.aload_n 2, []), (.aload_n 0, []), (.iload_n 3, []), (.iconst 1, []), (.iadd, []), (.iaload, []), (.invokevirtual 105, [223, 1, 9, 1]), (.pop, []), (.goto 702, [52])]
theorem lk_24 : am_ckB 278 lwTp (lwTp 24) le_24 [(1, []), (1, []), (1, []), (1, []), (1, []), (1, []), (3, [675, 676, 677, 80]), (1, []), (1, []), (1, []), (1, []), (1, []), (1, []), (1, []), (3, [1362, 1363, 1364, 91]), (1, []), (3, [])] (none) = true := am_ckC_e _ _ _ (by decide +kernel)
theorem lg_24 {L : Nat} {xs : Nat → Int} {lv : am_Lv} {st : List am_V} {sh : am_Sh} {M M' : am_M} (h : am_blk (some (L, xs)) (SH.length, am_sl SH) (LwJ L xs M') (fun v1 s1 M1 => v1 = some (.inl 1) ∧ s1 = SH ∧ M1 = M') (none) le_24 lv st sh M) : am_At (some (L, xs)) 278 (lwTp 24) lv st sh M (some (.inl 1)) SH M' :=
  am_blk_e (fun _ _ _ _ _ h => h) le_24 _ _ _ _ _ _ lk_24 h
noncomputable def le_25 : List am_E := [(.aload_n 1, []), (.aload_n 0, []), (.iload_n 3, []), (.iconst 1, []), (.iadd, []), (.iaload, []), (.invokevirtual 106, [128, 1, 8, 1]), (.pop, []), (.aload_n 2, []), (.aload_n 0, []), (.iload_n 3, []), (.iconst 1, []), (.iadd, []), (.iaload, []), (.invokevirtual 109, [224, 1, 9, 1]), (.pop, []), (.goto 679, [52])]
theorem lk_25 : am_ckB 278 lwTp (lwTp 25) le_25 [(1, []), (1, []), (1, []), (1, []), (1, []), (1, []), (3, [694, 695, 696, 80]), (1, []), (1, []), (1, []), (1, []), (1, []), (1, []), (1, []), (3, [1375, 1376, 1377, 91]), (1, []), (3, [])] (none) = true := am_ckC_e _ _ _ (by decide +kernel)
theorem lg_25 {L : Nat} {xs : Nat → Int} {lv : am_Lv} {st : List am_V} {sh : am_Sh} {M M' : am_M} (h : am_blk (some (L, xs)) (SH.length, am_sl SH) (LwJ L xs M') (fun v1 s1 M1 => v1 = some (.inl 1) ∧ s1 = SH ∧ M1 = M') (none) le_25 lv st sh M) : am_At (some (L, xs)) 278 (lwTp 25) lv st sh M (some (.inl 1)) SH M' :=
  am_blk_e (fun _ _ _ _ _ h => h) le_25 _ _ _ _ _ _ lk_25 h
noncomputable def le_26 : List am_E := [(.aload_n 1, []), (.aload_n 0, []), (.iload_n 3, []), (.iconst 1, []), (.iadd, []), (.iaload, []), (.aload_n 0, []), (.iload_n 3, []), (.iconst 2, []), (.iadd, []), (.iaload, []), (.invokevirtual 110, [129, 2, 8, 1]), (.pop, []), (.aload_n 2, []), (.aload_n 0, []), (.iload_n 3, []), (.iconst 1, []), (.iadd, []), (.iaload, []), (.aload_n 0, []), (.iload_n 3, []), (.iconst 2, []), (.iadd, []), (.iaload, []), (.invokevirtual 113, [226, 2, 9, 1]), (.pop, []), (.goto 646, [52])]
theorem lk_26 : am_ckB 278 lwTp (lwTp 26) le_26 [(1, []), (1, []), (1, []), (1, []), (1, []), (1, []), (1, []), (1, []), (1, []), (1, []), (1, []), (3, [706, 707, 708, 80]), (1, []), (1, []), (1, []), (1, []), (1, []), (1, []), (1, []), (1, []), (1, []), (1, []), (1, []), (1, []), (3, [1379, 1380, 1381, 91]), (1, []), (3, [])] (none) = true := am_ckC_e _ _ _ (by decide +kernel)
theorem lg_26 {L : Nat} {xs : Nat → Int} {lv : am_Lv} {st : List am_V} {sh : am_Sh} {M M' : am_M} (h : am_blk (some (L, xs)) (SH.length, am_sl SH) (LwJ L xs M') (fun v1 s1 M1 => v1 = some (.inl 1) ∧ s1 = SH ∧ M1 = M') (none) le_26 lv st sh M) : am_At (some (L, xs)) 278 (lwTp 26) lv st sh M (some (.inl 1)) SH M' :=
  am_blk_e (fun _ _ _ _ _ h => h) le_26 _ _ _ _ _ _ lk_26 h
noncomputable def le_27 : List am_E := [(.aload_n 1, []), (.aload_n 0, []), (.iload_n 3, []), (.iconst 1, []), (.iadd, []), (.iaload, []), (.aload_n 0, []), (.iload_n 3, []), (.iconst 2, []), (.iadd, []), (.iaload, []), (.invokevirtual 114, [130, 2, 8, 1]), (.pop, []), (.aload_n 2, []), (.aload_n 0, []), (.iload_n 3, []), (.iconst 1, []), (.iadd, []), (.iaload, []), (.aload_n 0, []), (.iload_n 3, []), (.iconst 2, []), (.iadd, []), (.iaload, []), (.invokevirtual 117, [231, 2, 9, 1]), (.pop, []), (.goto 613, [52])]
theorem lk_27 : am_ckB 278 lwTp (lwTp 27) le_27 [(1, []), (1, []), (1, []), (1, []), (1, []), (1, []), (1, []), (1, []), (1, []), (1, []), (1, []), (3, [724, 725, 726, 80]), (1, []), (1, []), (1, []), (1, []), (1, []), (1, []), (1, []), (1, []), (1, []), (1, []), (1, []), (1, []), (3, [1387, 1388, 1389, 91]), (1, []), (3, [])] (none) = true := am_ckC_e _ _ _ (by decide +kernel)
theorem lg_27 {L : Nat} {xs : Nat → Int} {lv : am_Lv} {st : List am_V} {sh : am_Sh} {M M' : am_M} (h : am_blk (some (L, xs)) (SH.length, am_sl SH) (LwJ L xs M') (fun v1 s1 M1 => v1 = some (.inl 1) ∧ s1 = SH ∧ M1 = M') (none) le_27 lv st sh M) : am_At (some (L, xs)) 278 (lwTp 27) lv st sh M (some (.inl 1)) SH M' :=
  am_blk_e (fun _ _ _ _ _ h => h) le_27 _ _ _ _ _ _ lk_27 h
noncomputable def le_28 : List am_E := [(.aload_n 1, []), (.aload_n 0, []), (.iload_n 3, []), (.iconst 1, []), (.iadd, []), (.iaload, []), (.aload_n 0, []), (.iload_n 3, []), (.iconst 2, []), (.iadd, []), (.iaload, []), (.aload_n 0, []), (.iload_n 3, []), (.iconst 3, []), (.iadd, []), (.iaload, []), (.invokevirtual 118, [131, 3, 8, 1]), (.pop, []), (.aload_n 2, []), (.aload_n 0, []), (.iload_n 3, []), (.iconst 1, []), (.iadd, []), (.iaload, []), (.aload_n 0, []), (.iload_n 3, []), (.iconst 2, []), (.iadd, []), (.iaload, []), (.aload_n 0, []), (.iload_n 3, []), (.iconst 3, []), (.iadd, []), (.iaload, []), (.invokevirtual 121, [235, 3, 9, 1]), (.pop, []), (.goto 570, [52])]
theorem lk_28 : am_ckB 278 lwTp (lwTp 28) le_28 [(1, []), (1, []), (1, []), (1, []), (1, []), (1, []), (1, []), (1, []), (1, []), (1, []), (1, []), (1, []), (1, []), (1, []), (1, []), (1, []), (3, [781, 782, 783, 80]), (1, []), (1, []), (1, []), (1, []), (1, []), (1, []), (1, []), (1, []), (1, []), (1, []), (1, []), (1, []), (1, []), (1, []), (1, []), (1, []), (1, []), (3, [1410, 1411, 1412, 91]), (1, []), (3, [])] (none) = true := am_ckC_e _ _ _ (by decide +kernel)
theorem lg_28 {L : Nat} {xs : Nat → Int} {lv : am_Lv} {st : List am_V} {sh : am_Sh} {M M' : am_M} (h : am_blk (some (L, xs)) (SH.length, am_sl SH) (LwJ L xs M') (fun v1 s1 M1 => v1 = some (.inl 1) ∧ s1 = SH ∧ M1 = M') (none) le_28 lv st sh M) : am_At (some (L, xs)) 278 (lwTp 28) lv st sh M (some (.inl 1)) SH M' :=
  am_blk_e (fun _ _ _ _ _ h => h) le_28 _ _ _ _ _ _ lk_28 h
noncomputable def le_29 : List am_E := [(.aload_n 1, []), (.aload_n 0, []), (.iload_n 3, []), (.iconst 1, []), (.iadd, []), (.iaload, []), (.aload_n 0, []), (.iload_n 3, []), (.iconst 2, []), (.iadd, []), (.iaload, []), (.invokevirtual 122, [132, 2, 8, 1]), (.pop, []), (.aload_n 2, []), (.aload_n 0, []), (.iload_n 3, []), (.iconst 1, []), (.iadd, []), (.iaload, []), (.aload_n 0, []), (.iload_n 3, []), (.iconst 2, []), (.iadd, []), (.iaload, []), (.invokevirtual 125, [237, 2, 9, 1]), (.pop, []), (.goto 537, [52])]
theorem lk_29 : am_ckB 278 lwTp (lwTp 29) le_29 [(1, []), (1, []), (1, []), (1, []), (1, []), (1, []), (1, []), (1, []), (1, []), (1, []), (1, []), (3, [790, 791, 792, 80]), (1, []), (1, []), (1, []), (1, []), (1, []), (1, []), (1, []), (1, []), (1, []), (1, []), (1, []), (1, []), (3, [1432, 1433, 1434, 91]), (1, []), (3, [])] (none) = true := am_ckC_e _ _ _ (by decide +kernel)
theorem lg_29 {L : Nat} {xs : Nat → Int} {lv : am_Lv} {st : List am_V} {sh : am_Sh} {M M' : am_M} (h : am_blk (some (L, xs)) (SH.length, am_sl SH) (LwJ L xs M') (fun v1 s1 M1 => v1 = some (.inl 1) ∧ s1 = SH ∧ M1 = M') (none) le_29 lv st sh M) : am_At (some (L, xs)) 278 (lwTp 29) lv st sh M (some (.inl 1)) SH M' :=
  am_blk_e (fun _ _ _ _ _ h => h) le_29 _ _ _ _ _ _ lk_29 h
noncomputable def le_30 : List am_E := [(.aload_n 1, []), (.aload_n 0, []), (.iload_n 3, []), (.iconst 1, []), (.iadd, []), (.iaload, []), (.invokevirtual 126, [133, 1, 8, 1]), (.pop, []), (.aload_n 2, []), (.aload_n 0, []), (.iload_n 3, []), (.iconst 1, []), (.iadd, []), (.iaload, []), (.invokevirtual 129, [238, 1, 9, 1]), (.pop, []), (.goto 514, [52])]
theorem lk_30 : am_ckB 278 lwTp (lwTp 30) le_30 [(1, []), (1, []), (1, []), (1, []), (1, []), (1, []), (3, [814, 815, 816, 80]), (1, []), (1, []), (1, []), (1, []), (1, []), (1, []), (1, []), (3, [1436, 1437, 1438, 91]), (1, []), (3, [])] (none) = true := am_ckC_e _ _ _ (by decide +kernel)
theorem lg_30 {L : Nat} {xs : Nat → Int} {lv : am_Lv} {st : List am_V} {sh : am_Sh} {M M' : am_M} (h : am_blk (some (L, xs)) (SH.length, am_sl SH) (LwJ L xs M') (fun v1 s1 M1 => v1 = some (.inl 1) ∧ s1 = SH ∧ M1 = M') (none) le_30 lv st sh M) : am_At (some (L, xs)) 278 (lwTp 30) lv st sh M (some (.inl 1)) SH M' :=
  am_blk_e (fun _ _ _ _ _ h => h) le_30 _ _ _ _ _ _ lk_30 h
noncomputable def le_31 : List am_E := [(.aload_n 1, []), (.aload_n 0, []), (.iload_n 3, []), (.iconst 1, []), (.iadd, []), (.iaload, []), (.aload_n 0, []), (.iload_n 3, []), (.iconst 2, []), (.iadd, []), (.iaload, []), (.aload_n 0, []), (.iload_n 3, []), (.iconst 3, []), (.iadd, []), (.iaload, []), (.invokevirtual 130, [134, 3, 8, 1]), (.pop, []), (.aload_n 2, []), (.aload_n 0, []), (.iload_n 3, []), (.iconst 1, []), (.iadd, []), (.iaload, []), (.aload_n 0, []), (.iload_n 3, []), (.iconst 2, []), (.iadd, []), (.iaload, []), (.aload_n 0, []), (.iload_n 3, []), (.iconst 3, []), (.iadd, []), (.iaload, []), (.invokevirtual 133, [239, 3, 9, 1]), (.pop, []), (.goto 471, [52])]
theorem lk_31 : am_ckB 278 lwTp (lwTp 31) le_31 [(1, []), (1, []), (1, []), (1, []), (1, []), (1, []), (1, []), (1, []), (1, []), (1, []), (1, []), (1, []), (1, []), (1, []), (1, []), (1, []), (3, [822, 823, 824, 80]), (1, []), (1, []), (1, []), (1, []), (1, []), (1, []), (1, []), (1, []), (1, []), (1, []), (1, []), (1, []), (1, []), (1, []), (1, []), (1, []), (1, []), (3, [1440, 1441, 1442, 91]), (1, []), (3, [])] (none) = true := am_ckC_e _ _ _ (by decide +kernel)
theorem lg_31 {L : Nat} {xs : Nat → Int} {lv : am_Lv} {st : List am_V} {sh : am_Sh} {M M' : am_M} (h : am_blk (some (L, xs)) (SH.length, am_sl SH) (LwJ L xs M') (fun v1 s1 M1 => v1 = some (.inl 1) ∧ s1 = SH ∧ M1 = M') (none) le_31 lv st sh M) : am_At (some (L, xs)) 278 (lwTp 31) lv st sh M (some (.inl 1)) SH M' :=
  am_blk_e (fun _ _ _ _ _ h => h) le_31 _ _ _ _ _ _ lk_31 h
noncomputable def le_32 : List am_E := [(.aload_n 1, []), (.aload_n 0, []), (.iload_n 3, []), (.iconst 1, []), (.iadd, []), (.iaload, []), (.aload_n 0, []), (.iload_n 3, []), (.iconst 2, []), (.iadd, []), (.iaload, []), (.invokevirtual 134, [135, 2, 8, 1]), (.pop, []), (.aload_n 2, []), (.aload_n 0, []), (.iload_n 3, []), (.iconst 1, []), (.iadd, []), (.iaload, []), (.aload_n 0, []), (.iload_n 3, []), (.iconst 2, []), (.iadd, []), (.iaload, []), (.invokevirtual 137, [240, 2, 9, 1]), (.pop, []), (.goto 438, [52])]
theorem lk_32 : am_ckB 278 lwTp (lwTp 32) le_32 [(1, []), (1, []), (1, []), (1, []), (1, []), (1, []), (1, []), (1, []), (1, []), (1, []), (1, []), (3, [826, 827, 828, 80]), (1, []), (1, []), (1, []), (1, []), (1, []), (1, []), (1, []), (1, []), (1, []), (1, []), (1, []), (1, []), (3, [1444, 1445, 1446, 91]), (1, []), (3, [])] (none) = true := am_ckC_e _ _ _ (by decide +kernel)
theorem lg_32 {L : Nat} {xs : Nat → Int} {lv : am_Lv} {st : List am_V} {sh : am_Sh} {M M' : am_M} (h : am_blk (some (L, xs)) (SH.length, am_sl SH) (LwJ L xs M') (fun v1 s1 M1 => v1 = some (.inl 1) ∧ s1 = SH ∧ M1 = M') (none) le_32 lv st sh M) : am_At (some (L, xs)) 278 (lwTp 32) lv st sh M (some (.inl 1)) SH M' :=
  am_blk_e (fun _ _ _ _ _ h => h) le_32 _ _ _ _ _ _ lk_32 h
noncomputable def le_33 : List am_E := [(.aload_n 1, []), (.invokevirtual 138, [136, 0, 8, 1]), (.pop, []), (.aload_n 2, []), (.invokevirtual 141, [241, 0, 9, 1]), (.pop, []), (.goto 425, [52])]
theorem lk_33 : am_ckB 278 lwTp (lwTp 33) le_33 [(1, []), (3, [838, 839, 840, 80]), (1, []), (1, []), (3, [1448, 1449, 1450, 91]), (1, []), (3, [])] (none) = true := am_ckC_e _ _ _ (by decide +kernel)
theorem lg_33 {L : Nat} {xs : Nat → Int} {lv : am_Lv} {st : List am_V} {sh : am_Sh} {M M' : am_M} (h : am_blk (some (L, xs)) (SH.length, am_sl SH) (LwJ L xs M') (fun v1 s1 M1 => v1 = some (.inl 1) ∧ s1 = SH ∧ M1 = M') (none) le_33 lv st sh M) : am_At (some (L, xs)) 278 (lwTp 33) lv st sh M (some (.inl 1)) SH M' :=
  am_blk_e (fun _ _ _ _ _ h => h) le_33 _ _ _ _ _ _ lk_33 h
noncomputable def le_34 : List am_E := [(.aload_n 1, []), (.aload_n 0, []), (.iload_n 3, []), (.iconst 1, []), (.iadd, []), (.iaload, []), (.aload_n 0, []), (.iload_n 3, []), (.iconst 2, []), (.iadd, []), (.iaload, []), (.invokevirtual 142, [137, 2, 8, 1]), (.pop, []), (.aload_n 2, []), (.aload_n 0, []), (.iload_n 3, []), (.iconst 1, []), (.iadd, []), (.iaload, []), (.aload_n 0, []), (.iload_n 3, []), (.iconst 2, []), (.iadd, []), (.iaload, []), (.invokevirtual 145, [244, 2, 9, 1]), (.pop, []), (.goto 392, [52])]
theorem lk_34 : am_ckB 278 lwTp (lwTp 34) le_34 [(1, []), (1, []), (1, []), (1, []), (1, []), (1, []), (1, []), (1, []), (1, []), (1, []), (1, []), (3, [843, 844, 845, 80]), (1, []), (1, []), (1, []), (1, []), (1, []), (1, []), (1, []), (1, []), (1, []), (1, []), (1, []), (1, []), (3, [1452, 1453, 1454, 91]), (1, []), (3, [])] (none) = true := am_ckC_e _ _ _ (by decide +kernel)
theorem lg_34 {L : Nat} {xs : Nat → Int} {lv : am_Lv} {st : List am_V} {sh : am_Sh} {M M' : am_M} (h : am_blk (some (L, xs)) (SH.length, am_sl SH) (LwJ L xs M') (fun v1 s1 M1 => v1 = some (.inl 1) ∧ s1 = SH ∧ M1 = M') (none) le_34 lv st sh M) : am_At (some (L, xs)) 278 (lwTp 34) lv st sh M (some (.inl 1)) SH M' :=
  am_blk_e (fun _ _ _ _ _ h => h) le_34 _ _ _ _ _ _ lk_34 h
noncomputable def le_35 : List am_E := [(.aload_n 1, []), (.aload_n 0, []), (.iload_n 3, []), (.iconst 1, []), (.iadd, []), (.iaload, []), (.aload_n 0, []), (.iload_n 3, []), (.iconst 2, []), (.iadd, []), (.iaload, []), (.invokevirtual 146, [138, 2, 8, 1]), (.pop, []), (.aload_n 2, []), (.aload_n 0, []), (.iload_n 3, []), (.iconst 1, []), (.iadd, []), (.iaload, []), (.aload_n 0, []), (.iload_n 3, []), (.iconst 2, []), (.iadd, []), (.iaload, []), (.invokevirtual 149, [245, 2, 9, 1]), (.pop, []), (.goto 359, [52])]
theorem lk_35 : am_ckB 278 lwTp (lwTp 35) le_35 [(1, []), (1, []), (1, []), (1, []), (1, []), (1, []), (1, []), (1, []), (1, []), (1, []), (1, []), (3, [881, 882, 883, 80]), (1, []), (1, []), (1, []), (1, []), (1, []), (1, []), (1, []), (1, []), (1, []), (1, []), (1, []), (1, []), (3, [1469, 1470, 1471, 91]), (1, []), (3, [])] (none) = true := am_ckC_e _ _ _ (by decide +kernel)
theorem lg_35 {L : Nat} {xs : Nat → Int} {lv : am_Lv} {st : List am_V} {sh : am_Sh} {M M' : am_M} (h : am_blk (some (L, xs)) (SH.length, am_sl SH) (LwJ L xs M') (fun v1 s1 M1 => v1 = some (.inl 1) ∧ s1 = SH ∧ M1 = M') (none) le_35 lv st sh M) : am_At (some (L, xs)) 278 (lwTp 35) lv st sh M (some (.inl 1)) SH M' :=
  am_blk_e (fun _ _ _ _ _ h => h) le_35 _ _ _ _ _ _ lk_35 h
noncomputable def le_36 : List am_E := [(.aload_n 1, []), (.aload_n 0, []), (.iload_n 3, []), (.iconst 1, []), (.iadd, []), (.iaload, []), (.aload_n 0, []), (.iload_n 3, []), (.iconst 2, []), (.iadd, []), (.iaload, []), (.invokevirtual 150, [139, 2, 8, 1]), (.pop, []), (.aload_n 2, []), (.aload_n 0, []), (.iload_n 3, []), (.iconst 1, []), (.iadd, []), (.iaload, []), (.aload_n 0, []), (.iload_n 3, []), (.iconst 2, []), (.iadd, []), (.iaload, []), (.invokevirtual 153, [246, 2, 9, 1]), (.pop, []), (.goto 326, [52])]
theorem lk_36 : am_ckB 278 lwTp (lwTp 36) le_36 [(1, []), (1, []), (1, []), (1, []), (1, []), (1, []), (1, []), (1, []), (1, []), (1, []), (1, []), (3, [889, 890, 891, 80]), (1, []), (1, []), (1, []), (1, []), (1, []), (1, []), (1, []), (1, []), (1, []), (1, []), (1, []), (1, []), (3, [1473, 1474, 1475, 91]), (1, []), (3, [])] (none) = true := am_ckC_e _ _ _ (by decide +kernel)
theorem lg_36 {L : Nat} {xs : Nat → Int} {lv : am_Lv} {st : List am_V} {sh : am_Sh} {M M' : am_M} (h : am_blk (some (L, xs)) (SH.length, am_sl SH) (LwJ L xs M') (fun v1 s1 M1 => v1 = some (.inl 1) ∧ s1 = SH ∧ M1 = M') (none) le_36 lv st sh M) : am_At (some (L, xs)) 278 (lwTp 36) lv st sh M (some (.inl 1)) SH M' :=
  am_blk_e (fun _ _ _ _ _ h => h) le_36 _ _ _ _ _ _ lk_36 h
noncomputable def le_37 : List am_E := [(.aload_n 1, []), (.aload_n 0, []), (.iload_n 3, []), (.iconst 1, []), (.iadd, []), (.iaload, []), (.aload_n 0, []), (.iload_n 3, []), (.iconst 2, []), (.iadd, []), (.iaload, []), (.invokevirtual 154, [140, 2, 8, 1]), (.pop, []), (.aload_n 2, []), (.aload_n 0, []), (.iload_n 3, []), (.iconst 1, []), (.iadd, []), (.iaload, []), (.aload_n 0, []), (.iload_n 3, []), (.iconst 2, []), (.iadd, []), (.iaload, []), (.invokevirtual 157, [253, 2, 9, 1]), (.pop, []), (.goto 293, [52])]
theorem lk_37 : am_ckB 278 lwTp (lwTp 37) le_37 [(1, []), (1, []), (1, []), (1, []), (1, []), (1, []), (1, []), (1, []), (1, []), (1, []), (1, []), (3, [903, 904, 905, 80]), (1, []), (1, []), (1, []), (1, []), (1, []), (1, []), (1, []), (1, []), (1, []), (1, []), (1, []), (1, []), (3, [1477, 1478, 1479, 91]), (1, []), (3, [])] (none) = true := am_ckC_e _ _ _ (by decide +kernel)
theorem lg_37 {L : Nat} {xs : Nat → Int} {lv : am_Lv} {st : List am_V} {sh : am_Sh} {M M' : am_M} (h : am_blk (some (L, xs)) (SH.length, am_sl SH) (LwJ L xs M') (fun v1 s1 M1 => v1 = some (.inl 1) ∧ s1 = SH ∧ M1 = M') (none) le_37 lv st sh M) : am_At (some (L, xs)) 278 (lwTp 37) lv st sh M (some (.inl 1)) SH M' :=
  am_blk_e (fun _ _ _ _ _ h => h) le_37 _ _ _ _ _ _ lk_37 h
noncomputable def le_38 : List am_E := [(.aload_n 1, []), (.aload_n 0, []), (.iload_n 3, []), (.iconst 1, []), (.iadd, []), (.iaload, []), (.aload_n 0, []), (.iload_n 3, []), (.iconst 2, []), (.iadd, []), (.iaload, []), (.invokevirtual 158, [141, 2, 8, 1]), (.pop, []), (.aload_n 2, []), (.aload_n 0, []), (.iload_n 3, []), (.iconst 1, []), (.iadd, []), (.iaload, []), (.aload_n 0, []), (.iload_n 3, []), (.iconst 2, []), (.iadd, []), (.iaload, []), (.invokevirtual 161, [254, 2, 9, 1]), (.pop, []), (.goto 260, [52])]
theorem lk_38 : am_ckB 278 lwTp (lwTp 38) le_38 [(1, []), (1, []), (1, []), (1, []), (1, []), (1, []), (1, []), (1, []), (1, []), (1, []), (1, []), (3, [939, 940, 941, 80]), (1, []), (1, []), (1, []), (1, []), (1, []), (1, []), (1, []), (1, []), (1, []), (1, []), (1, []), (1, []), (3, [1505, 1506, 1507, 91]), (1, []), (3, [])] (none) = true := am_ckC_e _ _ _ (by decide +kernel)
theorem lg_38 {L : Nat} {xs : Nat → Int} {lv : am_Lv} {st : List am_V} {sh : am_Sh} {M M' : am_M} (h : am_blk (some (L, xs)) (SH.length, am_sl SH) (LwJ L xs M') (fun v1 s1 M1 => v1 = some (.inl 1) ∧ s1 = SH ∧ M1 = M') (none) le_38 lv st sh M) : am_At (some (L, xs)) 278 (lwTp 38) lv st sh M (some (.inl 1)) SH M' :=
  am_blk_e (fun _ _ _ _ _ h => h) le_38 _ _ _ _ _ _ lk_38 h
noncomputable def le_39 : List am_E := [(.aload_n 1, []), (.aload_n 0, []), (.iload_n 3, []), (.iconst 1, []), (.iadd, []), (.iaload, []), (.aload_n 0, []), (.iload_n 3, []), (.iconst 2, []), (.iadd, []), (.iaload, []), (.invokevirtual 162, [142, 2, 8, 1]), (.pop, []), (.aload_n 2, []), (.aload_n 0, []), (.iload_n 3, []), (.iconst 1, []), (.iadd, []), (.iaload, []), (.aload_n 0, []), (.iload_n 3, []), (.iconst 2, []), (.iadd, []), (.iaload, []), (.invokevirtual 165, [255, 2, 9, 1]), (.pop, []), (.goto 227, [52])]
theorem lk_39 : am_ckB 278 lwTp (lwTp 39) le_39 [(1, []), (1, []), (1, []), (1, []), (1, []), (1, []), (1, []), (1, []), (1, []), (1, []), (1, []), (3, [947, 948, 949, 80]), (1, []), (1, []), (1, []), (1, []), (1, []), (1, []), (1, []), (1, []), (1, []), (1, []), (1, []), (1, []), (3, [1509, 1510, 1511, 91]), (1, []), (3, [])] (none) = true := am_ckC_e _ _ _ (by decide +kernel)
theorem lg_39 {L : Nat} {xs : Nat → Int} {lv : am_Lv} {st : List am_V} {sh : am_Sh} {M M' : am_M} (h : am_blk (some (L, xs)) (SH.length, am_sl SH) (LwJ L xs M') (fun v1 s1 M1 => v1 = some (.inl 1) ∧ s1 = SH ∧ M1 = M') (none) le_39 lv st sh M) : am_At (some (L, xs)) 278 (lwTp 39) lv st sh M (some (.inl 1)) SH M' :=
  am_blk_e (fun _ _ _ _ _ h => h) le_39 _ _ _ _ _ _ lk_39 h
noncomputable def le_40 : List am_E := [(.aload_n 1, []), (.aload_n 0, []), (.iload_n 3, []), (.iconst 1, []), (.iadd, []), (.iaload, []), (.aload_n 0, []), (.iload_n 3, []), (.iconst 2, []), (.iadd, []), (.iaload, []), (.invokevirtual 166, [143, 2, 8, 1]), (.pop, []), (.aload_n 2, []), (.aload_n 0, []), (.iload_n 3, []), (.iconst 1, []), (.iadd, []), (.iaload, []), (.aload_n 0, []), (.iload_n 3, []), (.iconst 2, []), (.iadd, []), (.iaload, []), (.invokevirtual 169, [256, 2, 9, 1]), (.pop, []), (.goto 194, [52])]
theorem lk_40 : am_ckB 278 lwTp (lwTp 40) le_40 [(1, []), (1, []), (1, []), (1, []), (1, []), (1, []), (1, []), (1, []), (1, []), (1, []), (1, []), (3, [956, 957, 958, 80]), (1, []), (1, []), (1, []), (1, []), (1, []), (1, []), (1, []), (1, []), (1, []), (1, []), (1, []), (1, []), (3, [1513, 1514, 1515, 91]), (1, []), (3, [])] (none) = true := am_ckC_e _ _ _ (by decide +kernel)
theorem lg_40 {L : Nat} {xs : Nat → Int} {lv : am_Lv} {st : List am_V} {sh : am_Sh} {M M' : am_M} (h : am_blk (some (L, xs)) (SH.length, am_sl SH) (LwJ L xs M') (fun v1 s1 M1 => v1 = some (.inl 1) ∧ s1 = SH ∧ M1 = M') (none) le_40 lv st sh M) : am_At (some (L, xs)) 278 (lwTp 40) lv st sh M (some (.inl 1)) SH M' :=
  am_blk_e (fun _ _ _ _ _ h => h) le_40 _ _ _ _ _ _ lk_40 h
noncomputable def le_41 : List am_E := [(.aload_n 1, []), (.aload_n 0, []), (.iload_n 3, []), (.iconst 1, []), (.iadd, []), (.iaload, []), (.invokevirtual 170, [144, 1, 8, 1]), (.pop, []), (.aload_n 2, []), (.aload_n 0, []), (.iload_n 3, []), (.iconst 1, []), (.iadd, []), (.iaload, []), (.invokevirtual 173, [259, 1, 9, 1]), (.pop, []), (.goto 171, [52])]
theorem lk_41 : am_ckB 278 lwTp (lwTp 41) le_41 [(1, []), (1, []), (1, []), (1, []), (1, []), (1, []), (3, [960, 961, 962, 80]), (1, []), (1, []), (1, []), (1, []), (1, []), (1, []), (1, []), (3, [1518, 1519, 1520, 91]), (1, []), (3, [])] (none) = true := am_ckC_e _ _ _ (by decide +kernel)
theorem lg_41 {L : Nat} {xs : Nat → Int} {lv : am_Lv} {st : List am_V} {sh : am_Sh} {M M' : am_M} (h : am_blk (some (L, xs)) (SH.length, am_sl SH) (LwJ L xs M') (fun v1 s1 M1 => v1 = some (.inl 1) ∧ s1 = SH ∧ M1 = M') (none) le_41 lv st sh M) : am_At (some (L, xs)) 278 (lwTp 41) lv st sh M (some (.inl 1)) SH M' :=
  am_blk_e (fun _ _ _ _ _ h => h) le_41 _ _ _ _ _ _ lk_41 h
noncomputable def le_42 : List am_E := [(.aload_n 1, []), (.aload_n 0, []), (.iload_n 3, []), (.iconst 1, []), (.iadd, []), (.iaload, []), (.invokevirtual 174, [145, 1, 8, 1]), (.pop, []), (.aload_n 2, []), (.aload_n 0, []), (.iload_n 3, []), (.iconst 1, []), (.iadd, []), (.iaload, []), (.invokevirtual 177, [260, 1, 9, 1]), (.pop, []), (.goto 148, [52])]
theorem lk_42 : am_ckB 278 lwTp (lwTp 42) le_42 [(1, []), (1, []), (1, []), (1, []), (1, []), (1, []), (3, [989, 990, 991, 80]), (1, []), (1, []), (1, []), (1, []), (1, []), (1, []), (1, []), (3, [1530, 1531, 1532, 91]), (1, []), (3, [])] (none) = true := am_ckC_e _ _ _ (by decide +kernel)
theorem lg_42 {L : Nat} {xs : Nat → Int} {lv : am_Lv} {st : List am_V} {sh : am_Sh} {M M' : am_M} (h : am_blk (some (L, xs)) (SH.length, am_sl SH) (LwJ L xs M') (fun v1 s1 M1 => v1 = some (.inl 1) ∧ s1 = SH ∧ M1 = M') (none) le_42 lv st sh M) : am_At (some (L, xs)) 278 (lwTp 42) lv st sh M (some (.inl 1)) SH M' :=
  am_blk_e (fun _ _ _ _ _ h => h) le_42 _ _ _ _ _ _ lk_42 h
noncomputable def le_43 : List am_E := [(.aload_n 1, []), (.aload_n 0, []), (.iload_n 3, []), (.iconst 1, []), (.iadd, []), (.iaload, []), (.aload_n 0, []), (.iload_n 3, []), (.iconst 2, []), (.iadd, []), (.iaload, []), (.invokevirtual 178, [146, 2, 8, 1]), (.pop, []), (.aload_n 2, []), (.aload_n 0, []), (.iload_n 3, []), (.iconst 1, []), (.iadd, []), (.iaload, []), (.aload_n 0, []), (.iload_n 3, []), (.iconst 2, []), (.iadd, []), (.iaload, []), (.invokevirtual 181, [261, 2, 9, 1]), (.pop, []), (.goto 115, [52])]
theorem lk_43 : am_ckB 278 lwTp (lwTp 43) le_43 [(1, []), (1, []), (1, []), (1, []), (1, []), (1, []), (1, []), (1, []), (1, []), (1, []), (1, []), (3, [1003, 1004, 1005, 80]), (1, []), (1, []), (1, []), (1, []), (1, []), (1, []), (1, []), (1, []), (1, []), (1, []), (1, []), (1, []), (3, [1534, 1535, 1536, 91]), (1, []), (3, [])] (none) = true := am_ckC_e _ _ _ (by decide +kernel)
theorem lg_43 {L : Nat} {xs : Nat → Int} {lv : am_Lv} {st : List am_V} {sh : am_Sh} {M M' : am_M} (h : am_blk (some (L, xs)) (SH.length, am_sl SH) (LwJ L xs M') (fun v1 s1 M1 => v1 = some (.inl 1) ∧ s1 = SH ∧ M1 = M') (none) le_43 lv st sh M) : am_At (some (L, xs)) 278 (lwTp 43) lv st sh M (some (.inl 1)) SH M' :=
  am_blk_e (fun _ _ _ _ _ h => h) le_43 _ _ _ _ _ _ lk_43 h
noncomputable def le_44 : List am_E := [(.aload_n 1, []), (.invokevirtual 182, [147, 0, 8, 1]), (.pop, []), (.aload_n 2, []), (.invokevirtual 185, [262, 0, 9, 1]), (.pop, []), (.goto 102, [52])]
theorem lk_44 : am_ckB 278 lwTp (lwTp 44) le_44 [(1, []), (3, [1011, 1012, 1013, 80]), (1, []), (1, []), (3, [1541, 1542, 1543, 91]), (1, []), (3, [])] (none) = true := am_ckC_e _ _ _ (by decide +kernel)
theorem lg_44 {L : Nat} {xs : Nat → Int} {lv : am_Lv} {st : List am_V} {sh : am_Sh} {M M' : am_M} (h : am_blk (some (L, xs)) (SH.length, am_sl SH) (LwJ L xs M') (fun v1 s1 M1 => v1 = some (.inl 1) ∧ s1 = SH ∧ M1 = M') (none) le_44 lv st sh M) : am_At (some (L, xs)) 278 (lwTp 44) lv st sh M (some (.inl 1)) SH M' :=
  am_blk_e (fun _ _ _ _ _ h => h) le_44 _ _ _ _ _ _ lk_44 h
noncomputable def le_45 : List am_E := [(.aload_n 1, []), (.invokevirtual 186, [148, 0, 8, 2]), (.pop2, []), (.aload_n 2, []), (.invokevirtual 190, [263, 0, 9, 2]), (.pop2, []), (.goto 89, [52])]
theorem lk_45 : am_ckB 278 lwTp (lwTp 45) le_45 [(1, []), (3, [1015, 1016, 1017, 80]), (1, []), (1, []), (3, [1545, 1546, 1547, 91]), (1, []), (3, [])] (none) = true := am_ckC_e _ _ _ (by decide +kernel)
theorem lg_45 {L : Nat} {xs : Nat → Int} {lv : am_Lv} {st : List am_V} {sh : am_Sh} {M M' : am_M} (h : am_blk (some (L, xs)) (SH.length, am_sl SH) (LwJ L xs M') (fun v1 s1 M1 => v1 = some (.inl 1) ∧ s1 = SH ∧ M1 = M') (none) le_45 lv st sh M) : am_At (some (L, xs)) 278 (lwTp 45) lv st sh M (some (.inl 1)) SH M' :=
  am_blk_e (fun _ _ _ _ _ h => h) le_45 _ _ _ _ _ _ lk_45 h
noncomputable def le_46 : List am_E := [(.aload_n 1, []), (.invokevirtual 191, [149, 0, 8, 2]), (.pop2, []), (.aload_n 2, []), (.invokevirtual 194, [264, 0, 9, 2]), (.pop2, []), (.goto 76, [52])]
theorem lk_46 : am_ckB 278 lwTp (lwTp 46) le_46 [(1, []), (3, [1019, 1020, 1021, 80]), (1, []), (1, []), (3, [1549, 1550, 1551, 91]), (1, []), (3, [])] (none) = true := am_ckC_e _ _ _ (by decide +kernel)
theorem lg_46 {L : Nat} {xs : Nat → Int} {lv : am_Lv} {st : List am_V} {sh : am_Sh} {M M' : am_M} (h : am_blk (some (L, xs)) (SH.length, am_sl SH) (LwJ L xs M') (fun v1 s1 M1 => v1 = some (.inl 1) ∧ s1 = SH ∧ M1 = M') (none) le_46 lv st sh M) : am_At (some (L, xs)) 278 (lwTp 46) lv st sh M (some (.inl 1)) SH M' :=
  am_blk_e (fun _ _ _ _ _ h => h) le_46 _ _ _ _ _ _ lk_46 h
noncomputable def le_47 : List am_E := [(.aload_n 1, []), (.aload_n 0, []), (.iload_n 3, []), (.iconst 1, []), (.iadd, []), (.iaload, []), (.invokevirtual 195, [150, 1, 8, 1]), (.pop, []), (.aload_n 2, []), (.aload_n 0, []), (.iload_n 3, []), (.iconst 1, []), (.iadd, []), (.iaload, []), (.invokevirtual 198, [268, 1, 9, 1]), (.pop, []), (.goto 53, [52])]
theorem lk_47 : am_ckB 278 lwTp (lwTp 47) le_47 [(1, []), (1, []), (1, []), (1, []), (1, []), (1, []), (3, [1023, 1024, 1025, 80]), (1, []), (1, []), (1, []), (1, []), (1, []), (1, []), (1, []), (3, [1553, 1554, 1555, 91]), (1, []), (3, [])] (none) = true := am_ckC_e _ _ _ (by decide +kernel)
theorem lg_47 {L : Nat} {xs : Nat → Int} {lv : am_Lv} {st : List am_V} {sh : am_Sh} {M M' : am_M} (h : am_blk (some (L, xs)) (SH.length, am_sl SH) (LwJ L xs M') (fun v1 s1 M1 => v1 = some (.inl 1) ∧ s1 = SH ∧ M1 = M') (none) le_47 lv st sh M) : am_At (some (L, xs)) 278 (lwTp 47) lv st sh M (some (.inl 1)) SH M' :=
  am_blk_e (fun _ _ _ _ _ h => h) le_47 _ _ _ _ _ _ lk_47 h
noncomputable def le_48 : List am_E := [(.aload_n 1, []), (.invokevirtual 199, [151, 0, 8, 1]), (.pop, []), (.aload_n 2, []), (.invokevirtual 202, [269, 0, 9, 1]), (.pop, []), (.goto 40, [52])]
theorem lk_48 : am_ckB 278 lwTp (lwTp 48) le_48 [(1, []), (3, [1041, 1042, 1043, 80]), (1, []), (1, []), (3, [1570, 1571, 1572, 91]), (1, []), (3, [])] (none) = true := am_ckC_e _ _ _ (by decide +kernel)
theorem lg_48 {L : Nat} {xs : Nat → Int} {lv : am_Lv} {st : List am_V} {sh : am_Sh} {M M' : am_M} (h : am_blk (some (L, xs)) (SH.length, am_sl SH) (LwJ L xs M') (fun v1 s1 M1 => v1 = some (.inl 1) ∧ s1 = SH ∧ M1 = M') (none) le_48 lv st sh M) : am_At (some (L, xs)) 278 (lwTp 48) lv st sh M (some (.inl 1)) SH M' :=
  am_blk_e (fun _ _ _ _ _ h => h) le_48 _ _ _ _ _ _ lk_48 h
noncomputable def le_49 : List am_E := [(.aload_n 1, []), (.aload_n 0, []), (.iload_n 3, []), (.iconst 1, []), (.iadd, []), (.iaload, []), (.invokevirtual 203, [152, 1, 8, 1]), (.pop, []), (.aload_n 2, []), (.aload_n 0, []), (.iload_n 3, []), (.iconst 1, []), (.iadd, []), (.iaload, []), (.invokevirtual 206, [270, 1, 9, 1]), (.pop, []), (.goto 17, [52])]
theorem lk_49 : am_ckB 278 lwTp (lwTp 49) le_49 [(1, []), (1, []), (1, []), (1, []), (1, []), (1, []), (3, [1045, 1046, 1047, 80]), (1, []), (1, []), (1, []), (1, []), (1, []), (1, []), (1, []), (3, [1574, 1575, 1576, 91]), (1, []), (3, [])] (none) = true := am_ckC_e _ _ _ (by decide +kernel)
theorem lg_49 {L : Nat} {xs : Nat → Int} {lv : am_Lv} {st : List am_V} {sh : am_Sh} {M M' : am_M} (h : am_blk (some (L, xs)) (SH.length, am_sl SH) (LwJ L xs M') (fun v1 s1 M1 => v1 = some (.inl 1) ∧ s1 = SH ∧ M1 = M') (none) le_49 lv st sh M) : am_At (some (L, xs)) 278 (lwTp 49) lv st sh M (some (.inl 1)) SH M' :=
  am_blk_e (fun _ _ _ _ _ h => h) le_49 _ _ _ _ _ _ lk_49 h
noncomputable def le_50 : List am_E := [(.aload_n 1, []), (.invokevirtual 207, [153, 0, 8, 2]), (.aload_n 2, []), (.invokevirtual 210, [271, 0, 9, 2]), (.lcmp, []), (.ifCond .eq 5, [52, 51])]
theorem lk_50 : am_ckB 278 lwTp (lwTp 50) le_50 [(1, []), (3, [1049, 1050, 1051, 80]), (1, []), (3, [1578, 1579, 1580, 91]), (1, []), (3, [])] (none) = true := am_ckC_e _ _ _ (by decide +kernel)
theorem lg_50 {L : Nat} {xs : Nat → Int} {lv : am_Lv} {st : List am_V} {sh : am_Sh} {M M' : am_M} (h : am_blk (some (L, xs)) (SH.length, am_sl SH) (LwJ L xs M') (fun v1 s1 M1 => v1 = some (.inl 1) ∧ s1 = SH ∧ M1 = M') (none) le_50 lv st sh M) : am_At (some (L, xs)) 278 (lwTp 50) lv st sh M (some (.inl 1)) SH M' :=
  am_blk_e (fun _ _ _ _ _ h => h) le_50 _ _ _ _ _ _ lk_50 h
noncomputable def le_52 : List am_E := [(.iinc 3 6, []), (.goto (-1560), [1001])]
theorem lk_52 : am_ckB 278 lwTp (lwTp 52) le_52 [(3, []), (3, [])] (none) = true := am_ckC_e _ _ _ (by decide +kernel)
theorem lg_52 {L : Nat} {xs : Nat → Int} {lv : am_Lv} {st : List am_V} {sh : am_Sh} {M M' : am_M} (h : am_blk (some (L, xs)) (SH.length, am_sl SH) (LwJ L xs M') (fun v1 s1 M1 => v1 = some (.inl 1) ∧ s1 = SH ∧ M1 = M') (none) le_52 lv st sh M) : am_At (some (L, xs)) 278 (lwTp 52) lv st sh M (some (.inl 1)) SH M' :=
  am_blk_e (fun _ _ _ _ _ h => h) le_52 _ _ _ _ _ _ lk_52 h
noncomputable def le_53 : List am_E := [(.iconst 1, []), (.ireturn, [1])]
theorem lk_53 : am_ckB 278 lwTp (lwTp 53) le_53 [(1, []), (1, [])] (none) = true := am_ckC_e _ _ _ (by decide +kernel)
theorem lg_53 {L : Nat} {xs : Nat → Int} {lv : am_Lv} {st : List am_V} {sh : am_Sh} {M M' : am_M} (h : am_blk (some (L, xs)) (SH.length, am_sl SH) (LwJ L xs M') (fun v1 s1 M1 => v1 = some (.inl 1) ∧ s1 = SH ∧ M1 = M') (none) le_53 lv st sh M) : am_At (some (L, xs)) 278 (lwTp 53) lv st sh M (some (.inl 1)) SH M' :=
  am_blk_e (fun _ _ _ _ _ h => h) le_53 _ _ _ _ _ _ lk_53 h
end
section
/-! The law: its head, its switch, its step, its end. -/
theorem am_sw_of {x : Int} {K : Nat → Prop} : ∀ (ts : List Nat) (lo : Int), (∀ (j t : Nat), ts[j]? = some t → x = lo + j → K t) → am_sw x lo ts K
  | [], _, _ => trivial
  | a :: ts, lo, h => ⟨fun e => h 0 a rfl (by simpa using e), am_sw_of ts (lo + 1) fun j t ht e => h (j + 1) t (by simpa using ht) (by rw [e]; push_cast; omega)⟩
theorem lw_end {L : Nat} {xs : Nat → Int} {i : Int} (M : am_M) : LwB L xs 53 i M M :=
  lg_53 (And.intro rfl (And.intro (fun _ => Or.inr rfl) (And.intro rfl (And.intro rfl rfl))))
theorem lw_step {L : Nat} {xs : Nat → Int} {i : Int} {M M' : am_M} (h : LwB L xs 1 (i + 6) M M') : LwB L xs 52 i M M' :=
  lg_52 h
theorem lw_head0 {L : Nat} {xs : Nat → Int} {i : Int} (M : am_M) (hc : wI ((L : Int) - 6) < wI i) : LwB L xs 1 i M M :=
  lg_1 (And.intro (fun _ => lw_end M) (fun h => absurd hc h))
theorem lw_head1 {L : Nat} {xs : Nat → Int} {i : Int} {M M' : am_M} (hc : ¬ wI ((L : Int) - 6) < wI i) (h : LwB L xs 2 i M M') : LwB L xs 1 i M M' :=
  lg_1 (And.intro (fun q => absurd q hc) (fun _ => h))
theorem sw_a {c : Int} {j : Nat} (h : c = j) (hj : j < 48) : ¬ (c < 0 ∨ 47 < c) := by omega
theorem sw_b {c : Int} {j : Nat} (hj : j < 48) (h : c < 0 ∨ 47 < c) (e : c = 0 + j) : False := by omega
theorem sw_c {c : Int} {j k : Nat} (h : c = j) (e : c = 0 + k) : k = j := by omega
theorem lw_sw0 {L : Nat} {xs : Nat → Int} {i : Int} {M M' : am_M} (hi : 0 ≤ wI i ∧ wI i < L) (hc : wI (b_and_ (xs (wI i).toNat) 63) < 0 ∨ 47 < wI (b_and_ (xs (wI i).toNat) 63)) (h : LwB L xs 52 i M M') : LwB L xs 2 i M M' :=
  lg_2 (And.intro hi (And.intro (fun _ => h) (am_sw_of _ _ fun j t ht e => (sw_b (List.getElem?_eq_some_iff.mp ht).1 hc e).elim)))
noncomputable def lwCs : List Nat := [3, 4, 5, 6, 7, 8, 9, 10, 11, 12, 13, 14, 15, 16, 17, 18, 19, 20, 21, 22, 23, 24, 25, 26, 27, 28, 29, 30, 31, 32, 33, 34, 35, 36, 37, 38, 39, 40, 41, 42, 43, 44, 45, 46, 47, 48, 49, 50]
theorem lw_sw1 {L : Nat} {xs : Nat → Int} {i : Int} {M M' : am_M} (hi : 0 ≤ wI i ∧ wI i < L) {j b : Nat} (hb : lwCs[j]? = some b) (hc : wI (b_and_ (xs (wI i).toNat) 63) = j) (h : LwB L xs b i M M') : LwB L xs 2 i M M' :=
  lg_2 (And.intro hi (And.intro (fun q => absurd q (sw_a hc (List.getElem?_eq_some_iff.mp hb).1)) (am_sw_of lwCs _ fun k t ht e => by
    have : k = j := sw_c hc e
    subst this
    rw [hb] at ht
    cases ht
    exact h)))
theorem lw_entry {L : Nat} {xs : Nat → Int} {M' : am_M} (h : LwB L xs 1 0 M0 M') : am_At (some (L, xs)) 278 (lwTp 0) [some (.inr (.inr none)), none, none, none] [] [] (cm []) (some (.inl 1)) SH M' :=
  lg_0 (And.intro (by decide) <| And.intro (by decide) <| And.intro (by decide +kernel) <| And.intro rfl <| And.intro (Nat.le_of_ble_eq_true rfl) <| Exists.intro SH1 <| Exists.intro (cm mkU1) <| And.intro mk_1 <| And.intro ⟨by decide, by decide, by decide +kernel, by decide +kernel⟩ <|
    And.intro (by decide) <| And.intro (by decide) <| And.intro (by decide +kernel) <| And.intro rfl <| And.intro (Nat.le_of_ble_eq_true rfl) <| Exists.intro SH <| Exists.intro (cm mkU0) <| And.intro mk_0 <| And.intro ⟨by decide, by decide, by decide +kernel, by decide +kernel⟩ <| h)
theorem lc_z {x y : Int} (h : wL x = wL y) : wI (c_lcmp x y) = 0 := by unfold c_lcmp; rw [h, if_neg (Int.lt_irrefl _), if_pos rfl]; rfl
theorem dv_X8_row_0 (v1 v2 : Int) (M M' : am_M) (x : Int) (h : X_X8_row_0 v1 v2 M = some (x, M')) : am_Calls 106 [.inr (.inr (some 0)), .inl v1, .inl v2] SH M (some (.inl x)) SH M' := by
  have e := dc_X8_row_0 v1 v2 M M' x h
  rw [show am_rk 106 = 1 from by decide +kernel] at e
  exact e
theorem dv_X9_row_53 (v1 v2 : Int) (M M' : am_M) (x : Int) (h : X_X9_row_53 v1 v2 M = some (x, M')) : am_Calls 174 [.inr (.inr (some 53)), .inl v1, .inl v2] SH M (some (.inl x)) SH M' := by
  have e := dc_X9_row_53 v1 v2 M M' x h
  rw [show am_rk 174 = 1 from by decide +kernel] at e
  exact e
theorem lw_row {L : Nat} {xs : Nat → Int} {i : Int} {M M1 M2 M' : am_M} {v w : Int} (hi : ∀ k : Int, 0 ≤ k → k < 6 → 0 ≤ wI (i + k) ∧ wI (i + k) < L) (hX : X_X8_row_0 (xs (wI (i + 1)).toNat) (xs (wI (i + 2)).toNat) M = some (v, M1)) (hY : X_X9_row_53 (xs (wI (i + 1)).toNat) (xs (wI (i + 2)).toNat) M1 = some (w, M2)) (hK : LwB L xs 52 i M2 M') : LwB L xs 3 i M M' :=
  lg_3 (And.intro (hi 1 (by decide) (by decide)) <| And.intro (hi 2 (by decide) (by decide)) <| And.intro rfl <| And.intro (Nat.le_of_ble_eq_true rfl) <| Exists.intro _ <| Exists.intro _ <| And.intro (dv_X8_row_0 _ _ _ _ _ hX) <| And.intro rfl <| And.intro (hi 1 (by decide) (by decide)) <| And.intro (hi 2 (by decide) (by decide)) <| And.intro rfl <| And.intro (Nat.le_of_ble_eq_true rfl) <| Exists.intro _ <| Exists.intro _ <| And.intro (dv_X9_row_53 _ _ _ _ _ hY) <| And.intro rfl <| hK)
theorem dv_X8_lay_0 (v1 v2 v3 : Int) (M M' : am_M) (x : Int) (h : X_X8_lay_0 v1 v2 v3 M = some (x, M')) : am_Calls 107 [.inr (.inr (some 0)), .inl v1, .inl v2, .inl v3] SH M (some (.inl x)) SH M' := by
  have e := dc_X8_lay_0 v1 v2 v3 M M' x h
  rw [show am_rk 107 = 1 from by decide +kernel] at e
  exact e
theorem dv_X9_lay_53 (v1 v2 v3 : Int) (M M' : am_M) (x : Int) (h : X_X9_lay_53 v1 v2 v3 M = some (x, M')) : am_Calls 177 [.inr (.inr (some 53)), .inl v1, .inl v2, .inl v3] SH M (some (.inl x)) SH M' := by
  have e := dc_X9_lay_53 v1 v2 v3 M M' x h
  rw [show am_rk 177 = 1 from by decide +kernel] at e
  exact e
theorem lw_lay {L : Nat} {xs : Nat → Int} {i : Int} {M M1 M2 M' : am_M} {v w : Int} (hi : ∀ k : Int, 0 ≤ k → k < 6 → 0 ≤ wI (i + k) ∧ wI (i + k) < L) (hX : X_X8_lay_0 (xs (wI (i + 1)).toNat) (xs (wI (i + 2)).toNat) (xs (wI (i + 3)).toNat) M = some (v, M1)) (hY : X_X9_lay_53 (xs (wI (i + 1)).toNat) (xs (wI (i + 2)).toNat) (xs (wI (i + 3)).toNat) M1 = some (w, M2)) (hK : LwB L xs 52 i M2 M') : LwB L xs 4 i M M' :=
  lg_4 (And.intro (hi 1 (by decide) (by decide)) <| And.intro (hi 2 (by decide) (by decide)) <| And.intro (hi 3 (by decide) (by decide)) <| And.intro rfl <| And.intro (Nat.le_of_ble_eq_true rfl) <| Exists.intro _ <| Exists.intro _ <| And.intro (dv_X8_lay_0 _ _ _ _ _ _ hX) <| And.intro rfl <| And.intro (hi 1 (by decide) (by decide)) <| And.intro (hi 2 (by decide) (by decide)) <| And.intro (hi 3 (by decide) (by decide)) <| And.intro rfl <| And.intro (Nat.le_of_ble_eq_true rfl) <| Exists.intro _ <| Exists.intro _ <| And.intro (dv_X9_lay_53 _ _ _ _ _ _ hY) <| And.intro rfl <| hK)
theorem dv_X8_at_0 (v1 v2 : Int) (M M' : am_M) (x : Int) (h : X_X8_at_0 v1 v2 M = some (x, M')) : am_Calls 108 [.inr (.inr (some 0)), .inl v1, .inl v2] SH M (some (.inl x)) SH M' := by
  have e := dc_X8_at_0 v1 v2 M M' x h
  rw [show am_rk 108 = 1 from by decide +kernel] at e
  exact e
theorem dv_X9_at_53 (v1 v2 : Int) (M M' : am_M) (x : Int) (h : X_X9_at_53 v1 v2 M = some (x, M')) : am_Calls 178 [.inr (.inr (some 53)), .inl v1, .inl v2] SH M (some (.inl x)) SH M' := by
  have e := dc_X9_at_53 v1 v2 M M' x h
  rw [show am_rk 178 = 1 from by decide +kernel] at e
  exact e
theorem lw_at {L : Nat} {xs : Nat → Int} {i : Int} {M M1 M2 M' : am_M} {v w : Int} (hi : ∀ k : Int, 0 ≤ k → k < 6 → 0 ≤ wI (i + k) ∧ wI (i + k) < L) (hX : X_X8_at_0 (xs (wI (i + 1)).toNat) (xs (wI (i + 2)).toNat) M = some (v, M1)) (hY : X_X9_at_53 (xs (wI (i + 1)).toNat) (xs (wI (i + 2)).toNat) M1 = some (w, M2)) (hK : LwB L xs 52 i M2 M') : LwB L xs 5 i M M' :=
  lg_5 (And.intro (hi 1 (by decide) (by decide)) <| And.intro (hi 2 (by decide) (by decide)) <| And.intro rfl <| And.intro (Nat.le_of_ble_eq_true rfl) <| Exists.intro _ <| Exists.intro _ <| And.intro (dv_X8_at_0 _ _ _ _ _ hX) <| And.intro rfl <| And.intro (hi 1 (by decide) (by decide)) <| And.intro (hi 2 (by decide) (by decide)) <| And.intro rfl <| And.intro (Nat.le_of_ble_eq_true rfl) <| Exists.intro _ <| Exists.intro _ <| And.intro (dv_X9_at_53 _ _ _ _ _ hY) <| And.intro rfl <| hK)
theorem dv_X8_tear_0 (v1 : Int) (M M' : am_M) (x : Int) (h : X_X8_tear_0 v1 M = some (x, M')) : am_Calls 109 [.inr (.inr (some 0)), .inl v1] SH M (some (.inl x)) SH M' := by
  have e := dc_X8_tear_0 v1 M M' x h
  rw [show am_rk 109 = 1 from by decide +kernel] at e
  exact e
theorem dv_X9_tear_53 (v1 : Int) (M M' : am_M) (x : Int) (h : X_X9_tear_53 v1 M = some (x, M')) : am_Calls 179 [.inr (.inr (some 53)), .inl v1] SH M (some (.inl x)) SH M' := by
  have e := dc_X9_tear_53 v1 M M' x h
  rw [show am_rk 179 = 1 from by decide +kernel] at e
  exact e
theorem lw_tear {L : Nat} {xs : Nat → Int} {i : Int} {M M1 M2 M' : am_M} {v w : Int} (hi : ∀ k : Int, 0 ≤ k → k < 6 → 0 ≤ wI (i + k) ∧ wI (i + k) < L) (hX : X_X8_tear_0 (xs (wI (i + 1)).toNat) M = some (v, M1)) (hY : X_X9_tear_53 (xs (wI (i + 1)).toNat) M1 = some (w, M2)) (hK : LwB L xs 52 i M2 M') : LwB L xs 6 i M M' :=
  lg_6 (And.intro (hi 1 (by decide) (by decide)) <| And.intro rfl <| And.intro (Nat.le_of_ble_eq_true rfl) <| Exists.intro _ <| Exists.intro _ <| And.intro (dv_X8_tear_0 _ _ _ _ hX) <| And.intro rfl <| And.intro (hi 1 (by decide) (by decide)) <| And.intro rfl <| And.intro (Nat.le_of_ble_eq_true rfl) <| Exists.intro _ <| Exists.intro _ <| And.intro (dv_X9_tear_53 _ _ _ _ hY) <| And.intro rfl <| hK)
theorem dv_X8_copy_0 (v1 v2 v3 v4 v5 : Int) (M M' : am_M) (x : Int) (h : X_X8_copy_0 v1 v2 v3 v4 v5 M = some (x, M')) : am_Calls 110 [.inr (.inr (some 0)), .inl v1, .inl v2, .inl v3, .inl v4, .inl v5] SH M (some (.inl x)) SH M' := by
  have e := dc_X8_copy_0 v1 v2 v3 v4 v5 M M' x h
  rw [show am_rk 110 = 1 from by decide +kernel] at e
  exact e
theorem dv_X9_copy_53 (v1 v2 v3 v4 v5 : Int) (M M' : am_M) (x : Int) (h : X_X9_copy_53 v1 v2 v3 v4 v5 M = some (x, M')) : am_Calls 181 [.inr (.inr (some 53)), .inl v1, .inl v2, .inl v3, .inl v4, .inl v5] SH M (some (.inl x)) SH M' := by
  have e := dc_X9_copy_53 v1 v2 v3 v4 v5 M M' x h
  rw [show am_rk 181 = 1 from by decide +kernel] at e
  exact e
theorem lw_copy {L : Nat} {xs : Nat → Int} {i : Int} {M M1 M2 M' : am_M} {v w : Int} (hi : ∀ k : Int, 0 ≤ k → k < 6 → 0 ≤ wI (i + k) ∧ wI (i + k) < L) (hX : X_X8_copy_0 (xs (wI (i + 1)).toNat) (xs (wI (i + 2)).toNat) (xs (wI (i + 3)).toNat) (xs (wI (i + 4)).toNat) (xs (wI (i + 5)).toNat) M = some (v, M1)) (hY : X_X9_copy_53 (xs (wI (i + 1)).toNat) (xs (wI (i + 2)).toNat) (xs (wI (i + 3)).toNat) (xs (wI (i + 4)).toNat) (xs (wI (i + 5)).toNat) M1 = some (w, M2)) (hK : LwB L xs 52 i M2 M') : LwB L xs 7 i M M' :=
  lg_7 (And.intro (hi 1 (by decide) (by decide)) <| And.intro (hi 2 (by decide) (by decide)) <| And.intro (hi 3 (by decide) (by decide)) <| And.intro (hi 4 (by decide) (by decide)) <| And.intro (hi 5 (by decide) (by decide)) <| And.intro rfl <| And.intro (Nat.le_of_ble_eq_true rfl) <| Exists.intro _ <| Exists.intro _ <| And.intro (dv_X8_copy_0 _ _ _ _ _ _ _ _ hX) <| And.intro rfl <| And.intro (hi 1 (by decide) (by decide)) <| And.intro (hi 2 (by decide) (by decide)) <| And.intro (hi 3 (by decide) (by decide)) <| And.intro (hi 4 (by decide) (by decide)) <| And.intro (hi 5 (by decide) (by decide)) <| And.intro rfl <| And.intro (Nat.le_of_ble_eq_true rfl) <| Exists.intro _ <| Exists.intro _ <| And.intro (dv_X9_copy_53 _ _ _ _ _ _ _ _ hY) <| And.intro rfl <| hK)
theorem dv_X8_mean_0 (v1 : Int) (M M' : am_M) (x : Int) (h : X_X8_mean_0 v1 M = some (x, M')) : am_Calls 111 [.inr (.inr (some 0)), .inl v1] SH M (some (.inl x)) SH M' := by
  have e := dc_X8_mean_0 v1 M M' x h
  rw [show am_rk 111 = 1 from by decide +kernel] at e
  exact e
theorem dv_X9_mean_53 (v1 : Int) (M M' : am_M) (x : Int) (h : X_X9_mean_53 v1 M = some (x, M')) : am_Calls 182 [.inr (.inr (some 53)), .inl v1] SH M (some (.inl x)) SH M' := by
  have e := dc_X9_mean_53 v1 M M' x h
  rw [show am_rk 182 = 1 from by decide +kernel] at e
  exact e
theorem lw_mean {L : Nat} {xs : Nat → Int} {i : Int} {M M1 M2 M' : am_M} {v w : Int} (hi : ∀ k : Int, 0 ≤ k → k < 6 → 0 ≤ wI (i + k) ∧ wI (i + k) < L) (hX : X_X8_mean_0 (xs (wI (i + 1)).toNat) M = some (v, M1)) (hY : X_X9_mean_53 (xs (wI (i + 1)).toNat) M1 = some (w, M2)) (hK : LwB L xs 52 i M2 M') : LwB L xs 8 i M M' :=
  lg_8 (And.intro (hi 1 (by decide) (by decide)) <| And.intro rfl <| And.intro (Nat.le_of_ble_eq_true rfl) <| Exists.intro _ <| Exists.intro _ <| And.intro (dv_X8_mean_0 _ _ _ _ hX) <| And.intro rfl <| And.intro (hi 1 (by decide) (by decide)) <| And.intro rfl <| And.intro (Nat.le_of_ble_eq_true rfl) <| Exists.intro _ <| Exists.intro _ <| And.intro (dv_X9_mean_53 _ _ _ _ hY) <| And.intro rfl <| hK)
theorem dv_X8_text_0 (v1 v2 : Int) (M M' : am_M) (x : Int) (h : X_X8_text_0 v1 v2 M = some (x, M')) : am_Calls 112 [.inr (.inr (some 0)), .inl v1, .inl v2] SH M (some (.inl x)) SH M' := by
  have e := dc_X8_text_0 v1 v2 M M' x h
  rw [show am_rk 112 = 1 from by decide +kernel] at e
  exact e
theorem dv_X9_text_53 (v1 v2 : Int) (M M' : am_M) (x : Int) (h : X_X9_text_53 v1 v2 M = some (x, M')) : am_Calls 183 [.inr (.inr (some 53)), .inl v1, .inl v2] SH M (some (.inl x)) SH M' := by
  have e := dc_X9_text_53 v1 v2 M M' x h
  rw [show am_rk 183 = 1 from by decide +kernel] at e
  exact e
theorem lw_text {L : Nat} {xs : Nat → Int} {i : Int} {M M1 M2 M' : am_M} {v w : Int} (hi : ∀ k : Int, 0 ≤ k → k < 6 → 0 ≤ wI (i + k) ∧ wI (i + k) < L) (hX : X_X8_text_0 (xs (wI (i + 1)).toNat) (xs (wI (i + 2)).toNat) M = some (v, M1)) (hY : X_X9_text_53 (xs (wI (i + 1)).toNat) (xs (wI (i + 2)).toNat) M1 = some (w, M2)) (hK : LwB L xs 52 i M2 M') : LwB L xs 9 i M M' :=
  lg_9 (And.intro (hi 1 (by decide) (by decide)) <| And.intro (hi 2 (by decide) (by decide)) <| And.intro rfl <| And.intro (Nat.le_of_ble_eq_true rfl) <| Exists.intro _ <| Exists.intro _ <| And.intro (dv_X8_text_0 _ _ _ _ _ hX) <| And.intro rfl <| And.intro (hi 1 (by decide) (by decide)) <| And.intro (hi 2 (by decide) (by decide)) <| And.intro rfl <| And.intro (Nat.le_of_ble_eq_true rfl) <| Exists.intro _ <| Exists.intro _ <| And.intro (dv_X9_text_53 _ _ _ _ _ hY) <| And.intro rfl <| hK)
theorem dv_X8_put_0 (v1 v2 v3 : Int) (M M' : am_M) (x : Int) (h : X_X8_put_0 v1 v2 v3 M = some (x, M')) : am_Calls 113 [.inr (.inr (some 0)), .inl v1, .inl v2, .inl v3] SH M (some (.inl x)) SH M' := by
  have e := dc_X8_put_0 v1 v2 v3 M M' x h
  rw [show am_rk 113 = 1 from by decide +kernel] at e
  exact e
theorem dv_X9_put_53 (v1 v2 v3 : Int) (M M' : am_M) (x : Int) (h : X_X9_put_53 v1 v2 v3 M = some (x, M')) : am_Calls 184 [.inr (.inr (some 53)), .inl v1, .inl v2, .inl v3] SH M (some (.inl x)) SH M' := by
  have e := dc_X9_put_53 v1 v2 v3 M M' x h
  rw [show am_rk 184 = 1 from by decide +kernel] at e
  exact e
theorem lw_put {L : Nat} {xs : Nat → Int} {i : Int} {M M1 M2 M' : am_M} {v w : Int} (hi : ∀ k : Int, 0 ≤ k → k < 6 → 0 ≤ wI (i + k) ∧ wI (i + k) < L) (hX : X_X8_put_0 (xs (wI (i + 1)).toNat) (xs (wI (i + 2)).toNat) (xs (wI (i + 3)).toNat) M = some (v, M1)) (hY : X_X9_put_53 (xs (wI (i + 1)).toNat) (xs (wI (i + 2)).toNat) (xs (wI (i + 3)).toNat) M1 = some (w, M2)) (hK : LwB L xs 52 i M2 M') : LwB L xs 10 i M M' :=
  lg_10 (And.intro (hi 1 (by decide) (by decide)) <| And.intro (hi 2 (by decide) (by decide)) <| And.intro (hi 3 (by decide) (by decide)) <| And.intro rfl <| And.intro (Nat.le_of_ble_eq_true rfl) <| Exists.intro _ <| Exists.intro _ <| And.intro (dv_X8_put_0 _ _ _ _ _ _ hX) <| And.intro rfl <| And.intro (hi 1 (by decide) (by decide)) <| And.intro (hi 2 (by decide) (by decide)) <| And.intro (hi 3 (by decide) (by decide)) <| And.intro rfl <| And.intro (Nat.le_of_ble_eq_true rfl) <| Exists.intro _ <| Exists.intro _ <| And.intro (dv_X9_put_53 _ _ _ _ _ _ hY) <| And.intro rfl <| hK)
theorem dv_X8_fault_0 (v1 : Int) (M M' : am_M) (x : Int) (h : X_X8_fault_0 v1 M = some (x, M')) : am_Calls 114 [.inr (.inr (some 0)), .inl v1] SH M (some (.inl x)) SH M' := by
  have e := dc_X8_fault_0 v1 M M' x h
  rw [show am_rk 114 = 1 from by decide +kernel] at e
  exact e
theorem dv_X9_fault_53 (v1 : Int) (M M' : am_M) (x : Int) (h : X_X9_fault_53 v1 M = some (x, M')) : am_Calls 192 [.inr (.inr (some 53)), .inl v1] SH M (some (.inl x)) SH M' := by
  have e := dc_X9_fault_53 v1 M M' x h
  rw [show am_rk 192 = 1 from by decide +kernel] at e
  exact e
theorem lw_fault {L : Nat} {xs : Nat → Int} {i : Int} {M M1 M2 M' : am_M} {v w : Int} (hi : ∀ k : Int, 0 ≤ k → k < 6 → 0 ≤ wI (i + k) ∧ wI (i + k) < L) (hX : X_X8_fault_0 (xs (wI (i + 1)).toNat) M = some (v, M1)) (hY : X_X9_fault_53 (xs (wI (i + 1)).toNat) M1 = some (w, M2)) (hK : LwB L xs 52 i M2 M') : LwB L xs 11 i M M' :=
  lg_11 (And.intro (hi 1 (by decide) (by decide)) <| And.intro rfl <| And.intro (Nat.le_of_ble_eq_true rfl) <| Exists.intro _ <| Exists.intro _ <| And.intro (dv_X8_fault_0 _ _ _ _ hX) <| And.intro rfl <| And.intro (hi 1 (by decide) (by decide)) <| And.intro rfl <| And.intro (Nat.le_of_ble_eq_true rfl) <| Exists.intro _ <| Exists.intro _ <| And.intro (dv_X9_fault_53 _ _ _ _ hY) <| And.intro rfl <| hK)
theorem dv_X8_land_0 (v1 : Int) (M M' : am_M) (x : Int) (h : X_X8_land_0 v1 M = some (x, M')) : am_Calls 115 [.inr (.inr (some 0)), .inl v1] SH M (some (.inl x)) SH M' := by
  have e := dc_X8_land_0 v1 M M' x h
  rw [show am_rk 115 = 1 from by decide +kernel] at e
  exact e
theorem dv_X9_land_53 (v1 : Int) (M M' : am_M) (x : Int) (h : X_X9_land_53 v1 M = some (x, M')) : am_Calls 193 [.inr (.inr (some 53)), .inl v1] SH M (some (.inl x)) SH M' := by
  have e := dc_X9_land_53 v1 M M' x h
  rw [show am_rk 193 = 1 from by decide +kernel] at e
  exact e
theorem lw_land {L : Nat} {xs : Nat → Int} {i : Int} {M M1 M2 M' : am_M} {v w : Int} (hi : ∀ k : Int, 0 ≤ k → k < 6 → 0 ≤ wI (i + k) ∧ wI (i + k) < L) (hX : X_X8_land_0 (xs (wI (i + 1)).toNat) M = some (v, M1)) (hY : X_X9_land_53 (xs (wI (i + 1)).toNat) M1 = some (w, M2)) (hK : LwB L xs 52 i M2 M') : LwB L xs 12 i M M' :=
  lg_12 (And.intro (hi 1 (by decide) (by decide)) <| And.intro rfl <| And.intro (Nat.le_of_ble_eq_true rfl) <| Exists.intro _ <| Exists.intro _ <| And.intro (dv_X8_land_0 _ _ _ _ hX) <| And.intro rfl <| And.intro (hi 1 (by decide) (by decide)) <| And.intro rfl <| And.intro (Nat.le_of_ble_eq_true rfl) <| Exists.intro _ <| Exists.intro _ <| And.intro (dv_X9_land_53 _ _ _ _ hY) <| And.intro rfl <| hK)
theorem dv_X8_strip_0 (v1 v2 : Int) (M M' : am_M) (x : Int) (h : X_X8_strip_0 v1 v2 M = some (x, M')) : am_Calls 116 [.inr (.inr (some 0)), .inl v1, .inl v2] SH M (some (.inl x)) SH M' := by
  have e := dc_X8_strip_0 v1 v2 M M' x h
  rw [show am_rk 116 = 1 from by decide +kernel] at e
  exact e
theorem dv_X9_strip_53 (v1 v2 : Int) (M M' : am_M) (x : Int) (h : X_X9_strip_53 v1 v2 M = some (x, M')) : am_Calls 201 [.inr (.inr (some 53)), .inl v1, .inl v2] SH M (some (.inl x)) SH M' := by
  have e := dc_X9_strip_53 v1 v2 M M' x h
  rw [show am_rk 201 = 1 from by decide +kernel] at e
  exact e
theorem lw_strip {L : Nat} {xs : Nat → Int} {i : Int} {M M1 M2 M' : am_M} {v w : Int} (hi : ∀ k : Int, 0 ≤ k → k < 6 → 0 ≤ wI (i + k) ∧ wI (i + k) < L) (hX : X_X8_strip_0 (xs (wI (i + 1)).toNat) (xs (wI (i + 2)).toNat) M = some (v, M1)) (hY : X_X9_strip_53 (xs (wI (i + 1)).toNat) (xs (wI (i + 2)).toNat) M1 = some (w, M2)) (hK : LwB L xs 52 i M2 M') : LwB L xs 13 i M M' :=
  lg_13 (And.intro (hi 1 (by decide) (by decide)) <| And.intro (hi 2 (by decide) (by decide)) <| And.intro rfl <| And.intro (Nat.le_of_ble_eq_true rfl) <| Exists.intro _ <| Exists.intro _ <| And.intro (dv_X8_strip_0 _ _ _ _ _ hX) <| And.intro rfl <| And.intro (hi 1 (by decide) (by decide)) <| And.intro (hi 2 (by decide) (by decide)) <| And.intro rfl <| And.intro (Nat.le_of_ble_eq_true rfl) <| Exists.intro _ <| Exists.intro _ <| And.intro (dv_X9_strip_53 _ _ _ _ _ hY) <| And.intro rfl <| hK)
theorem dv_X8_mark_0 (v1 v2 : Int) (M M' : am_M) (x : Int) (h : X_X8_mark_0 v1 v2 M = some (x, M')) : am_Calls 117 [.inr (.inr (some 0)), .inl v1, .inl v2] SH M (some (.inl x)) SH M' := by
  have e := dc_X8_mark_0 v1 v2 M M' x h
  rw [show am_rk 117 = 1 from by decide +kernel] at e
  exact e
theorem dv_X9_mark_53 (v1 v2 : Int) (M M' : am_M) (x : Int) (h : X_X9_mark_53 v1 v2 M = some (x, M')) : am_Calls 205 [.inr (.inr (some 53)), .inl v1, .inl v2] SH M (some (.inl x)) SH M' := by
  have e := dc_X9_mark_53 v1 v2 M M' x h
  rw [show am_rk 205 = 1 from by decide +kernel] at e
  exact e
theorem lw_mark {L : Nat} {xs : Nat → Int} {i : Int} {M M1 M2 M' : am_M} {v w : Int} (hi : ∀ k : Int, 0 ≤ k → k < 6 → 0 ≤ wI (i + k) ∧ wI (i + k) < L) (hX : X_X8_mark_0 (xs (wI (i + 1)).toNat) (xs (wI (i + 2)).toNat) M = some (v, M1)) (hY : X_X9_mark_53 (xs (wI (i + 1)).toNat) (xs (wI (i + 2)).toNat) M1 = some (w, M2)) (hK : LwB L xs 52 i M2 M') : LwB L xs 14 i M M' :=
  lg_14 (And.intro (hi 1 (by decide) (by decide)) <| And.intro (hi 2 (by decide) (by decide)) <| And.intro rfl <| And.intro (Nat.le_of_ble_eq_true rfl) <| Exists.intro _ <| Exists.intro _ <| And.intro (dv_X8_mark_0 _ _ _ _ _ hX) <| And.intro rfl <| And.intro (hi 1 (by decide) (by decide)) <| And.intro (hi 2 (by decide) (by decide)) <| And.intro rfl <| And.intro (Nat.le_of_ble_eq_true rfl) <| Exists.intro _ <| Exists.intro _ <| And.intro (dv_X9_mark_53 _ _ _ _ _ hY) <| And.intro rfl <| hK)
theorem dv_X8_rate_0 (v1 v2 : Int) (M M' : am_M) (x : Int) (h : X_X8_rate_0 v1 v2 M = some (x, M')) : am_Calls 118 [.inr (.inr (some 0)), .inl v1, .inl v2] SH M (some (.inl x)) SH M' := by
  have e := dc_X8_rate_0 v1 v2 M M' x h
  rw [show am_rk 118 = 1 from by decide +kernel] at e
  exact e
theorem dv_X9_rate_53 (v1 v2 : Int) (M M' : am_M) (x : Int) (h : X_X9_rate_53 v1 v2 M = some (x, M')) : am_Calls 206 [.inr (.inr (some 53)), .inl v1, .inl v2] SH M (some (.inl x)) SH M' := by
  have e := dc_X9_rate_53 v1 v2 M M' x h
  rw [show am_rk 206 = 1 from by decide +kernel] at e
  exact e
theorem lw_rate {L : Nat} {xs : Nat → Int} {i : Int} {M M1 M2 M' : am_M} {v w : Int} (hi : ∀ k : Int, 0 ≤ k → k < 6 → 0 ≤ wI (i + k) ∧ wI (i + k) < L) (hX : X_X8_rate_0 (xs (wI (i + 1)).toNat) (xs (wI (i + 2)).toNat) M = some (v, M1)) (hY : X_X9_rate_53 (xs (wI (i + 1)).toNat) (xs (wI (i + 2)).toNat) M1 = some (w, M2)) (hK : LwB L xs 52 i M2 M') : LwB L xs 15 i M M' :=
  lg_15 (And.intro (hi 1 (by decide) (by decide)) <| And.intro (hi 2 (by decide) (by decide)) <| And.intro rfl <| And.intro (Nat.le_of_ble_eq_true rfl) <| Exists.intro _ <| Exists.intro _ <| And.intro (dv_X8_rate_0 _ _ _ _ _ hX) <| And.intro rfl <| And.intro (hi 1 (by decide) (by decide)) <| And.intro (hi 2 (by decide) (by decide)) <| And.intro rfl <| And.intro (Nat.le_of_ble_eq_true rfl) <| Exists.intro _ <| Exists.intro _ <| And.intro (dv_X9_rate_53 _ _ _ _ _ hY) <| And.intro rfl <| hK)
theorem dv_X8_day_0 (v1 v2 : Int) (M M' : am_M) (x : Int) (h : X_X8_day_0 v1 v2 M = some (x, M')) : am_Calls 119 [.inr (.inr (some 0)), .inl v1, .inl v2] SH M (some (.inl x)) SH M' := by
  have e := dc_X8_day_0 v1 v2 M M' x h
  rw [show am_rk 119 = 1 from by decide +kernel] at e
  exact e
theorem dv_X9_day_53 (v1 v2 : Int) (M M' : am_M) (x : Int) (h : X_X9_day_53 v1 v2 M = some (x, M')) : am_Calls 208 [.inr (.inr (some 53)), .inl v1, .inl v2] SH M (some (.inl x)) SH M' := by
  have e := dc_X9_day_53 v1 v2 M M' x h
  rw [show am_rk 208 = 1 from by decide +kernel] at e
  exact e
theorem lw_day {L : Nat} {xs : Nat → Int} {i : Int} {M M1 M2 M' : am_M} {v w : Int} (hi : ∀ k : Int, 0 ≤ k → k < 6 → 0 ≤ wI (i + k) ∧ wI (i + k) < L) (hX : X_X8_day_0 (xs (wI (i + 1)).toNat) (xs (wI (i + 2)).toNat) M = some (v, M1)) (hY : X_X9_day_53 (xs (wI (i + 1)).toNat) (xs (wI (i + 2)).toNat) M1 = some (w, M2)) (hK : LwB L xs 52 i M2 M') : LwB L xs 16 i M M' :=
  lg_16 (And.intro (hi 1 (by decide) (by decide)) <| And.intro (hi 2 (by decide) (by decide)) <| And.intro rfl <| And.intro (Nat.le_of_ble_eq_true rfl) <| Exists.intro _ <| Exists.intro _ <| And.intro (dv_X8_day_0 _ _ _ _ _ hX) <| And.intro rfl <| And.intro (hi 1 (by decide) (by decide)) <| And.intro (hi 2 (by decide) (by decide)) <| And.intro rfl <| And.intro (Nat.le_of_ble_eq_true rfl) <| Exists.intro _ <| Exists.intro _ <| And.intro (dv_X9_day_53 _ _ _ _ _ hY) <| And.intro rfl <| hK)
theorem dv_X8_undo_0 (v1 : Int) (M M' : am_M) (x : Int) (h : X_X8_undo_0 v1 M = some (x, M')) : am_Calls 120 [.inr (.inr (some 0)), .inl v1] SH M (some (.inl x)) SH M' := by
  have e := dc_X8_undo_0 v1 M M' x h
  rw [show am_rk 120 = 1 from by decide +kernel] at e
  exact e
theorem dv_X9_undo_53 (v1 : Int) (M M' : am_M) (x : Int) (h : X_X9_undo_53 v1 M = some (x, M')) : am_Calls 211 [.inr (.inr (some 53)), .inl v1] SH M (some (.inl x)) SH M' := by
  have e := dc_X9_undo_53 v1 M M' x h
  rw [show am_rk 211 = 1 from by decide +kernel] at e
  exact e
theorem lw_undo {L : Nat} {xs : Nat → Int} {i : Int} {M M1 M2 M' : am_M} {v w : Int} (hi : ∀ k : Int, 0 ≤ k → k < 6 → 0 ≤ wI (i + k) ∧ wI (i + k) < L) (hX : X_X8_undo_0 (xs (wI (i + 1)).toNat) M = some (v, M1)) (hY : X_X9_undo_53 (xs (wI (i + 1)).toNat) M1 = some (w, M2)) (hK : LwB L xs 52 i M2 M') : LwB L xs 17 i M M' :=
  lg_17 (And.intro (hi 1 (by decide) (by decide)) <| And.intro rfl <| And.intro (Nat.le_of_ble_eq_true rfl) <| Exists.intro _ <| Exists.intro _ <| And.intro (dv_X8_undo_0 _ _ _ _ hX) <| And.intro rfl <| And.intro (hi 1 (by decide) (by decide)) <| And.intro rfl <| And.intro (Nat.le_of_ble_eq_true rfl) <| Exists.intro _ <| Exists.intro _ <| And.intro (dv_X9_undo_53 _ _ _ _ hY) <| And.intro rfl <| hK)
theorem dv_X8_border_0 (M M' : am_M) (x : Int) (h : X_X8_border_0 M = some (x, M')) : am_Calls 121 [.inr (.inr (some 0))] SH M (some (.inl x)) SH M' := by
  have e := dc_X8_border_0 M M' x h
  rw [show am_rk 121 = 1 from by decide +kernel] at e
  exact e
theorem dv_X9_border_53 (M M' : am_M) (x : Int) (h : X_X9_border_53 M = some (x, M')) : am_Calls 212 [.inr (.inr (some 53))] SH M (some (.inl x)) SH M' := by
  have e := dc_X9_border_53 M M' x h
  rw [show am_rk 212 = 1 from by decide +kernel] at e
  exact e
theorem lw_border {L : Nat} {xs : Nat → Int} {i : Int} {M M1 M2 M' : am_M} {v w : Int} (hi : ∀ k : Int, 0 ≤ k → k < 6 → 0 ≤ wI (i + k) ∧ wI (i + k) < L) (hX : X_X8_border_0 M = some (v, M1)) (hY : X_X9_border_53 M1 = some (w, M2)) (hK : LwB L xs 52 i M2 M') : LwB L xs 18 i M M' :=
  lg_18 (And.intro rfl <| And.intro (Nat.le_of_ble_eq_true rfl) <| Exists.intro _ <| Exists.intro _ <| And.intro (dv_X8_border_0 _ _ _ hX) <| And.intro rfl <| And.intro rfl <| And.intro (Nat.le_of_ble_eq_true rfl) <| Exists.intro _ <| Exists.intro _ <| And.intro (dv_X9_border_53 _ _ _ hY) <| And.intro rfl <| hK)
theorem dv_X8_lain_0 (v1 : Int) (M M' : am_M) (x : Int) (h : X_X8_lain_0 v1 M = some (x, M')) : am_Calls 122 [.inr (.inr (some 0)), .inl v1] SH M (some (.inl x)) SH M' := by
  have e := dc_X8_lain_0 v1 M M' x h
  rw [show am_rk 122 = 1 from by decide +kernel] at e
  exact e
theorem dv_X9_lain_53 (v1 : Int) (M M' : am_M) (x : Int) (h : X_X9_lain_53 v1 M = some (x, M')) : am_Calls 213 [.inr (.inr (some 53)), .inl v1] SH M (some (.inl x)) SH M' := by
  have e := dc_X9_lain_53 v1 M M' x h
  rw [show am_rk 213 = 1 from by decide +kernel] at e
  exact e
theorem lw_lain {L : Nat} {xs : Nat → Int} {i : Int} {M M1 M2 M' : am_M} {v w : Int} (hi : ∀ k : Int, 0 ≤ k → k < 6 → 0 ≤ wI (i + k) ∧ wI (i + k) < L) (hX : X_X8_lain_0 (xs (wI (i + 1)).toNat) M = some (v, M1)) (hY : X_X9_lain_53 (xs (wI (i + 1)).toNat) M1 = some (w, M2)) (hK : LwB L xs 52 i M2 M') : LwB L xs 19 i M M' :=
  lg_19 (And.intro (hi 1 (by decide) (by decide)) <| And.intro rfl <| And.intro (Nat.le_of_ble_eq_true rfl) <| Exists.intro _ <| Exists.intro _ <| And.intro (dv_X8_lain_0 _ _ _ _ hX) <| And.intro rfl <| And.intro (hi 1 (by decide) (by decide)) <| And.intro rfl <| And.intro (Nat.le_of_ble_eq_true rfl) <| Exists.intro _ <| Exists.intro _ <| And.intro (dv_X9_lain_53 _ _ _ _ hY) <| And.intro rfl <| hK)
theorem dv_X8_got_0 (v1 : Int) (M M' : am_M) (x : Int) (h : X_X8_got_0 v1 M = some (x, M')) : am_Calls 123 [.inr (.inr (some 0)), .inl v1] SH M (some (.inl x)) SH M' := by
  have e := dc_X8_got_0 v1 M M' x h
  rw [show am_rk 123 = 1 from by decide +kernel] at e
  exact e
theorem dv_X9_got_53 (v1 : Int) (M M' : am_M) (x : Int) (h : X_X9_got_53 v1 M = some (x, M')) : am_Calls 214 [.inr (.inr (some 53)), .inl v1] SH M (some (.inl x)) SH M' := by
  have e := dc_X9_got_53 v1 M M' x h
  rw [show am_rk 214 = 1 from by decide +kernel] at e
  exact e
theorem lw_got {L : Nat} {xs : Nat → Int} {i : Int} {M M1 M2 M' : am_M} {v w : Int} (hi : ∀ k : Int, 0 ≤ k → k < 6 → 0 ≤ wI (i + k) ∧ wI (i + k) < L) (hX : X_X8_got_0 (xs (wI (i + 1)).toNat) M = some (v, M1)) (hY : X_X9_got_53 (xs (wI (i + 1)).toNat) M1 = some (w, M2)) (hK : LwB L xs 52 i M2 M') : LwB L xs 20 i M M' :=
  lg_20 (And.intro (hi 1 (by decide) (by decide)) <| And.intro rfl <| And.intro (Nat.le_of_ble_eq_true rfl) <| Exists.intro _ <| Exists.intro _ <| And.intro (dv_X8_got_0 _ _ _ _ hX) <| And.intro rfl <| And.intro (hi 1 (by decide) (by decide)) <| And.intro rfl <| And.intro (Nat.le_of_ble_eq_true rfl) <| Exists.intro _ <| Exists.intro _ <| And.intro (dv_X9_got_53 _ _ _ _ hY) <| And.intro rfl <| hK)
theorem dv_X8_keep_0 (v1 : Int) (M M' : am_M) (x : Int) (h : X_X8_keep_0 v1 M = some (x, M')) : am_Calls 124 [.inr (.inr (some 0)), .inl v1] SH M (some (.inl x)) SH M' := by
  have e := dc_X8_keep_0 v1 M M' x h
  rw [show am_rk 124 = 1 from by decide +kernel] at e
  exact e
theorem dv_X9_keep_53 (v1 : Int) (M M' : am_M) (x : Int) (h : X_X9_keep_53 v1 M = some (x, M')) : am_Calls 215 [.inr (.inr (some 53)), .inl v1] SH M (some (.inl x)) SH M' := by
  have e := dc_X9_keep_53 v1 M M' x h
  rw [show am_rk 215 = 1 from by decide +kernel] at e
  exact e
theorem lw_keep {L : Nat} {xs : Nat → Int} {i : Int} {M M1 M2 M' : am_M} {v w : Int} (hi : ∀ k : Int, 0 ≤ k → k < 6 → 0 ≤ wI (i + k) ∧ wI (i + k) < L) (hX : X_X8_keep_0 (xs (wI (i + 1)).toNat) M = some (v, M1)) (hY : X_X9_keep_53 (xs (wI (i + 1)).toNat) M1 = some (w, M2)) (hK : LwB L xs 52 i M2 M') : LwB L xs 21 i M M' :=
  lg_21 (And.intro (hi 1 (by decide) (by decide)) <| And.intro rfl <| And.intro (Nat.le_of_ble_eq_true rfl) <| Exists.intro _ <| Exists.intro _ <| And.intro (dv_X8_keep_0 _ _ _ _ hX) <| And.intro rfl <| And.intro (hi 1 (by decide) (by decide)) <| And.intro rfl <| And.intro (Nat.le_of_ble_eq_true rfl) <| Exists.intro _ <| Exists.intro _ <| And.intro (dv_X9_keep_53 _ _ _ _ hY) <| And.intro rfl <| hK)
theorem dv_X8_on_0 (v1 : Int) (M M' : am_M) (x : Int) (h : X_X8_on_0 v1 M = some (x, M')) : am_Calls 125 [.inr (.inr (some 0)), .inl v1] SH M (some (.inl x)) SH M' := by
  have e := dc_X8_on_0 v1 M M' x h
  rw [show am_rk 125 = 1 from by decide +kernel] at e
  exact e
theorem dv_X9_on_53 (v1 : Int) (M M' : am_M) (x : Int) (h : X_X9_on_53 v1 M = some (x, M')) : am_Calls 216 [.inr (.inr (some 53)), .inl v1] SH M (some (.inl x)) SH M' := by
  have e := dc_X9_on_53 v1 M M' x h
  rw [show am_rk 216 = 1 from by decide +kernel] at e
  exact e
theorem lw_on {L : Nat} {xs : Nat → Int} {i : Int} {M M1 M2 M' : am_M} {v w : Int} (hi : ∀ k : Int, 0 ≤ k → k < 6 → 0 ≤ wI (i + k) ∧ wI (i + k) < L) (hX : X_X8_on_0 (xs (wI (i + 1)).toNat) M = some (v, M1)) (hY : X_X9_on_53 (xs (wI (i + 1)).toNat) M1 = some (w, M2)) (hK : LwB L xs 52 i M2 M') : LwB L xs 22 i M M' :=
  lg_22 (And.intro (hi 1 (by decide) (by decide)) <| And.intro rfl <| And.intro (Nat.le_of_ble_eq_true rfl) <| Exists.intro _ <| Exists.intro _ <| And.intro (dv_X8_on_0 _ _ _ _ hX) <| And.intro rfl <| And.intro (hi 1 (by decide) (by decide)) <| And.intro rfl <| And.intro (Nat.le_of_ble_eq_true rfl) <| Exists.intro _ <| Exists.intro _ <| And.intro (dv_X9_on_53 _ _ _ _ hY) <| And.intro rfl <| hK)
theorem dv_X8_moves_0 (M M' : am_M) (x : Int) (h : X_X8_moves_0 M = some (x, M')) : am_Calls 126 [.inr (.inr (some 0))] SH M (some (.inl x)) SH M' := by
  have e := dc_X8_moves_0 M M' x h
  rw [show am_rk 126 = 1 from by decide +kernel] at e
  exact e
theorem dv_X9_moves_53 (M M' : am_M) (x : Int) (h : X_X9_moves_53 M = some (x, M')) : am_Calls 220 [.inr (.inr (some 53))] SH M (some (.inl x)) SH M' := by
  have e := dc_X9_moves_53 M M' x h
  rw [show am_rk 220 = 1 from by decide +kernel] at e
  exact e
theorem lw_moves {L : Nat} {xs : Nat → Int} {i : Int} {M M1 M2 M' : am_M} {v w : Int} (hi : ∀ k : Int, 0 ≤ k → k < 6 → 0 ≤ wI (i + k) ∧ wI (i + k) < L) (hX : X_X8_moves_0 M = some (v, M1)) (hY : X_X9_moves_53 M1 = some (w, M2)) (hK : LwB L xs 52 i M2 M') : LwB L xs 23 i M M' :=
  lg_23 (And.intro rfl <| And.intro (Nat.le_of_ble_eq_true rfl) <| Exists.intro _ <| Exists.intro _ <| And.intro (dv_X8_moves_0 _ _ _ hX) <| And.intro rfl <| And.intro rfl <| And.intro (Nat.le_of_ble_eq_true rfl) <| Exists.intro _ <| Exists.intro _ <| And.intro (dv_X9_moves_53 _ _ _ hY) <| And.intro rfl <| hK)
theorem dv_X8_judge_0 (v1 : Int) (M M' : am_M) (x : Int) (h : X_X8_judge_0 v1 M = some (x, M')) : am_Calls 127 [.inr (.inr (some 0)), .inl v1] SH M (some (.inl x)) SH M' := by
  have e := dc_X8_judge_0 v1 M M' x h
  rw [show am_rk 127 = 1 from by decide +kernel] at e
  exact e
theorem dv_X9_judge_53 (v1 : Int) (M M' : am_M) (x : Int) (h : X_X9_judge_53 v1 M = some (x, M')) : am_Calls 223 [.inr (.inr (some 53)), .inl v1] SH M (some (.inl x)) SH M' := by
  have e := dc_X9_judge_53 v1 M M' x h
  rw [show am_rk 223 = 1 from by decide +kernel] at e
  exact e
theorem lw_judge {L : Nat} {xs : Nat → Int} {i : Int} {M M1 M2 M' : am_M} {v w : Int} (hi : ∀ k : Int, 0 ≤ k → k < 6 → 0 ≤ wI (i + k) ∧ wI (i + k) < L) (hX : X_X8_judge_0 (xs (wI (i + 1)).toNat) M = some (v, M1)) (hY : X_X9_judge_53 (xs (wI (i + 1)).toNat) M1 = some (w, M2)) (hK : LwB L xs 52 i M2 M') : LwB L xs 24 i M M' :=
  lg_24 (And.intro (hi 1 (by decide) (by decide)) <| And.intro rfl <| And.intro (Nat.le_of_ble_eq_true rfl) <| Exists.intro _ <| Exists.intro _ <| And.intro (dv_X8_judge_0 _ _ _ _ hX) <| And.intro rfl <| And.intro (hi 1 (by decide) (by decide)) <| And.intro rfl <| And.intro (Nat.le_of_ble_eq_true rfl) <| Exists.intro _ <| Exists.intro _ <| And.intro (dv_X9_judge_53 _ _ _ _ hY) <| And.intro rfl <| hK)
theorem dv_X8_rude_0 (v1 : Int) (M M' : am_M) (x : Int) (h : X_X8_rude_0 v1 M = some (x, M')) : am_Calls 128 [.inr (.inr (some 0)), .inl v1] SH M (some (.inl x)) SH M' := by
  have e := dc_X8_rude_0 v1 M M' x h
  rw [show am_rk 128 = 1 from by decide +kernel] at e
  exact e
theorem dv_X9_rude_53 (v1 : Int) (M M' : am_M) (x : Int) (h : X_X9_rude_53 v1 M = some (x, M')) : am_Calls 224 [.inr (.inr (some 53)), .inl v1] SH M (some (.inl x)) SH M' := by
  have e := dc_X9_rude_53 v1 M M' x h
  rw [show am_rk 224 = 1 from by decide +kernel] at e
  exact e
theorem lw_rude {L : Nat} {xs : Nat → Int} {i : Int} {M M1 M2 M' : am_M} {v w : Int} (hi : ∀ k : Int, 0 ≤ k → k < 6 → 0 ≤ wI (i + k) ∧ wI (i + k) < L) (hX : X_X8_rude_0 (xs (wI (i + 1)).toNat) M = some (v, M1)) (hY : X_X9_rude_53 (xs (wI (i + 1)).toNat) M1 = some (w, M2)) (hK : LwB L xs 52 i M2 M') : LwB L xs 25 i M M' :=
  lg_25 (And.intro (hi 1 (by decide) (by decide)) <| And.intro rfl <| And.intro (Nat.le_of_ble_eq_true rfl) <| Exists.intro _ <| Exists.intro _ <| And.intro (dv_X8_rude_0 _ _ _ _ hX) <| And.intro rfl <| And.intro (hi 1 (by decide) (by decide)) <| And.intro rfl <| And.intro (Nat.le_of_ble_eq_true rfl) <| Exists.intro _ <| Exists.intro _ <| And.intro (dv_X9_rude_53 _ _ _ _ hY) <| And.intro rfl <| hK)
theorem dv_X8_pays_0 (v1 v2 : Int) (M M' : am_M) (x : Int) (h : X_X8_pays_0 v1 v2 M = some (x, M')) : am_Calls 129 [.inr (.inr (some 0)), .inl v1, .inl v2] SH M (some (.inl x)) SH M' := by
  have e := dc_X8_pays_0 v1 v2 M M' x h
  rw [show am_rk 129 = 1 from by decide +kernel] at e
  exact e
theorem dv_X9_pays_53 (v1 v2 : Int) (M M' : am_M) (x : Int) (h : X_X9_pays_53 v1 v2 M = some (x, M')) : am_Calls 226 [.inr (.inr (some 53)), .inl v1, .inl v2] SH M (some (.inl x)) SH M' := by
  have e := dc_X9_pays_53 v1 v2 M M' x h
  rw [show am_rk 226 = 1 from by decide +kernel] at e
  exact e
theorem lw_pays {L : Nat} {xs : Nat → Int} {i : Int} {M M1 M2 M' : am_M} {v w : Int} (hi : ∀ k : Int, 0 ≤ k → k < 6 → 0 ≤ wI (i + k) ∧ wI (i + k) < L) (hX : X_X8_pays_0 (xs (wI (i + 1)).toNat) (xs (wI (i + 2)).toNat) M = some (v, M1)) (hY : X_X9_pays_53 (xs (wI (i + 1)).toNat) (xs (wI (i + 2)).toNat) M1 = some (w, M2)) (hK : LwB L xs 52 i M2 M') : LwB L xs 26 i M M' :=
  lg_26 (And.intro (hi 1 (by decide) (by decide)) <| And.intro (hi 2 (by decide) (by decide)) <| And.intro rfl <| And.intro (Nat.le_of_ble_eq_true rfl) <| Exists.intro _ <| Exists.intro _ <| And.intro (dv_X8_pays_0 _ _ _ _ _ hX) <| And.intro rfl <| And.intro (hi 1 (by decide) (by decide)) <| And.intro (hi 2 (by decide) (by decide)) <| And.intro rfl <| And.intro (Nat.le_of_ble_eq_true rfl) <| Exists.intro _ <| Exists.intro _ <| And.intro (dv_X9_pays_53 _ _ _ _ _ hY) <| And.intro rfl <| hK)
theorem dv_X8_soonest_0 (v1 v2 : Int) (M M' : am_M) (x : Int) (h : X_X8_soonest_0 v1 v2 M = some (x, M')) : am_Calls 130 [.inr (.inr (some 0)), .inl v1, .inl v2] SH M (some (.inl x)) SH M' := by
  have e := dc_X8_soonest_0 v1 v2 M M' x h
  rw [show am_rk 130 = 1 from by decide +kernel] at e
  exact e
theorem dv_X9_soonest_53 (v1 v2 : Int) (M M' : am_M) (x : Int) (h : X_X9_soonest_53 v1 v2 M = some (x, M')) : am_Calls 231 [.inr (.inr (some 53)), .inl v1, .inl v2] SH M (some (.inl x)) SH M' := by
  have e := dc_X9_soonest_53 v1 v2 M M' x h
  rw [show am_rk 231 = 1 from by decide +kernel] at e
  exact e
theorem lw_soonest {L : Nat} {xs : Nat → Int} {i : Int} {M M1 M2 M' : am_M} {v w : Int} (hi : ∀ k : Int, 0 ≤ k → k < 6 → 0 ≤ wI (i + k) ∧ wI (i + k) < L) (hX : X_X8_soonest_0 (xs (wI (i + 1)).toNat) (xs (wI (i + 2)).toNat) M = some (v, M1)) (hY : X_X9_soonest_53 (xs (wI (i + 1)).toNat) (xs (wI (i + 2)).toNat) M1 = some (w, M2)) (hK : LwB L xs 52 i M2 M') : LwB L xs 27 i M M' :=
  lg_27 (And.intro (hi 1 (by decide) (by decide)) <| And.intro (hi 2 (by decide) (by decide)) <| And.intro rfl <| And.intro (Nat.le_of_ble_eq_true rfl) <| Exists.intro _ <| Exists.intro _ <| And.intro (dv_X8_soonest_0 _ _ _ _ _ hX) <| And.intro rfl <| And.intro (hi 1 (by decide) (by decide)) <| And.intro (hi 2 (by decide) (by decide)) <| And.intro rfl <| And.intro (Nat.le_of_ble_eq_true rfl) <| Exists.intro _ <| Exists.intro _ <| And.intro (dv_X9_soonest_53 _ _ _ _ _ hY) <| And.intro rfl <| hK)
theorem dv_X8_polite_0 (v1 v2 v3 : Int) (M M' : am_M) (x : Int) (h : X_X8_polite_0 v1 v2 v3 M = some (x, M')) : am_Calls 131 [.inr (.inr (some 0)), .inl v1, .inl v2, .inl v3] SH M (some (.inl x)) SH M' := by
  have e := dc_X8_polite_0 v1 v2 v3 M M' x h
  rw [show am_rk 131 = 1 from by decide +kernel] at e
  exact e
theorem dv_X9_polite_53 (v1 v2 v3 : Int) (M M' : am_M) (x : Int) (h : X_X9_polite_53 v1 v2 v3 M = some (x, M')) : am_Calls 235 [.inr (.inr (some 53)), .inl v1, .inl v2, .inl v3] SH M (some (.inl x)) SH M' := by
  have e := dc_X9_polite_53 v1 v2 v3 M M' x h
  rw [show am_rk 235 = 1 from by decide +kernel] at e
  exact e
theorem lw_polite {L : Nat} {xs : Nat → Int} {i : Int} {M M1 M2 M' : am_M} {v w : Int} (hi : ∀ k : Int, 0 ≤ k → k < 6 → 0 ≤ wI (i + k) ∧ wI (i + k) < L) (hX : X_X8_polite_0 (xs (wI (i + 1)).toNat) (xs (wI (i + 2)).toNat) (xs (wI (i + 3)).toNat) M = some (v, M1)) (hY : X_X9_polite_53 (xs (wI (i + 1)).toNat) (xs (wI (i + 2)).toNat) (xs (wI (i + 3)).toNat) M1 = some (w, M2)) (hK : LwB L xs 52 i M2 M') : LwB L xs 28 i M M' :=
  lg_28 (And.intro (hi 1 (by decide) (by decide)) <| And.intro (hi 2 (by decide) (by decide)) <| And.intro (hi 3 (by decide) (by decide)) <| And.intro rfl <| And.intro (Nat.le_of_ble_eq_true rfl) <| Exists.intro _ <| Exists.intro _ <| And.intro (dv_X8_polite_0 _ _ _ _ _ _ hX) <| And.intro rfl <| And.intro (hi 1 (by decide) (by decide)) <| And.intro (hi 2 (by decide) (by decide)) <| And.intro (hi 3 (by decide) (by decide)) <| And.intro rfl <| And.intro (Nat.le_of_ble_eq_true rfl) <| Exists.intro _ <| Exists.intro _ <| And.intro (dv_X9_polite_53 _ _ _ _ _ _ hY) <| And.intro rfl <| hK)
theorem dv_X8_ways_0 (v1 v2 : Int) (M M' : am_M) (x : Int) (h : X_X8_ways_0 v1 v2 M = some (x, M')) : am_Calls 132 [.inr (.inr (some 0)), .inl v1, .inl v2] SH M (some (.inl x)) SH M' := by
  have e := dc_X8_ways_0 v1 v2 M M' x h
  rw [show am_rk 132 = 1 from by decide +kernel] at e
  exact e
theorem dv_X9_ways_53 (v1 v2 : Int) (M M' : am_M) (x : Int) (h : X_X9_ways_53 v1 v2 M = some (x, M')) : am_Calls 237 [.inr (.inr (some 53)), .inl v1, .inl v2] SH M (some (.inl x)) SH M' := by
  have e := dc_X9_ways_53 v1 v2 M M' x h
  rw [show am_rk 237 = 1 from by decide +kernel] at e
  exact e
theorem lw_ways {L : Nat} {xs : Nat → Int} {i : Int} {M M1 M2 M' : am_M} {v w : Int} (hi : ∀ k : Int, 0 ≤ k → k < 6 → 0 ≤ wI (i + k) ∧ wI (i + k) < L) (hX : X_X8_ways_0 (xs (wI (i + 1)).toNat) (xs (wI (i + 2)).toNat) M = some (v, M1)) (hY : X_X9_ways_53 (xs (wI (i + 1)).toNat) (xs (wI (i + 2)).toNat) M1 = some (w, M2)) (hK : LwB L xs 52 i M2 M') : LwB L xs 29 i M M' :=
  lg_29 (And.intro (hi 1 (by decide) (by decide)) <| And.intro (hi 2 (by decide) (by decide)) <| And.intro rfl <| And.intro (Nat.le_of_ble_eq_true rfl) <| Exists.intro _ <| Exists.intro _ <| And.intro (dv_X8_ways_0 _ _ _ _ _ hX) <| And.intro rfl <| And.intro (hi 1 (by decide) (by decide)) <| And.intro (hi 2 (by decide) (by decide)) <| And.intro rfl <| And.intro (Nat.le_of_ble_eq_true rfl) <| Exists.intro _ <| Exists.intro _ <| And.intro (dv_X9_ways_53 _ _ _ _ _ hY) <| And.intro rfl <| hK)
theorem dv_X8_reach_0 (v1 : Int) (M M' : am_M) (x : Int) (h : X_X8_reach_0 v1 M = some (x, M')) : am_Calls 133 [.inr (.inr (some 0)), .inl v1] SH M (some (.inl x)) SH M' := by
  have e := dc_X8_reach_0 v1 M M' x h
  rw [show am_rk 133 = 1 from by decide +kernel] at e
  exact e
theorem dv_X9_reach_53 (v1 : Int) (M M' : am_M) (x : Int) (h : X_X9_reach_53 v1 M = some (x, M')) : am_Calls 238 [.inr (.inr (some 53)), .inl v1] SH M (some (.inl x)) SH M' := by
  have e := dc_X9_reach_53 v1 M M' x h
  rw [show am_rk 238 = 1 from by decide +kernel] at e
  exact e
theorem lw_reach {L : Nat} {xs : Nat → Int} {i : Int} {M M1 M2 M' : am_M} {v w : Int} (hi : ∀ k : Int, 0 ≤ k → k < 6 → 0 ≤ wI (i + k) ∧ wI (i + k) < L) (hX : X_X8_reach_0 (xs (wI (i + 1)).toNat) M = some (v, M1)) (hY : X_X9_reach_53 (xs (wI (i + 1)).toNat) M1 = some (w, M2)) (hK : LwB L xs 52 i M2 M') : LwB L xs 30 i M M' :=
  lg_30 (And.intro (hi 1 (by decide) (by decide)) <| And.intro rfl <| And.intro (Nat.le_of_ble_eq_true rfl) <| Exists.intro _ <| Exists.intro _ <| And.intro (dv_X8_reach_0 _ _ _ _ hX) <| And.intro rfl <| And.intro (hi 1 (by decide) (by decide)) <| And.intro rfl <| And.intro (Nat.le_of_ble_eq_true rfl) <| Exists.intro _ <| Exists.intro _ <| And.intro (dv_X9_reach_53 _ _ _ _ hY) <| And.intro rfl <| hK)
theorem dv_X8_least_0 (v1 v2 v3 : Int) (M M' : am_M) (x : Int) (h : X_X8_least_0 v1 v2 v3 M = some (x, M')) : am_Calls 134 [.inr (.inr (some 0)), .inl v1, .inl v2, .inl v3] SH M (some (.inl x)) SH M' := by
  have e := dc_X8_least_0 v1 v2 v3 M M' x h
  rw [show am_rk 134 = 1 from by decide +kernel] at e
  exact e
theorem dv_X9_least_53 (v1 v2 v3 : Int) (M M' : am_M) (x : Int) (h : X_X9_least_53 v1 v2 v3 M = some (x, M')) : am_Calls 239 [.inr (.inr (some 53)), .inl v1, .inl v2, .inl v3] SH M (some (.inl x)) SH M' := by
  have e := dc_X9_least_53 v1 v2 v3 M M' x h
  rw [show am_rk 239 = 1 from by decide +kernel] at e
  exact e
theorem lw_least {L : Nat} {xs : Nat → Int} {i : Int} {M M1 M2 M' : am_M} {v w : Int} (hi : ∀ k : Int, 0 ≤ k → k < 6 → 0 ≤ wI (i + k) ∧ wI (i + k) < L) (hX : X_X8_least_0 (xs (wI (i + 1)).toNat) (xs (wI (i + 2)).toNat) (xs (wI (i + 3)).toNat) M = some (v, M1)) (hY : X_X9_least_53 (xs (wI (i + 1)).toNat) (xs (wI (i + 2)).toNat) (xs (wI (i + 3)).toNat) M1 = some (w, M2)) (hK : LwB L xs 52 i M2 M') : LwB L xs 31 i M M' :=
  lg_31 (And.intro (hi 1 (by decide) (by decide)) <| And.intro (hi 2 (by decide) (by decide)) <| And.intro (hi 3 (by decide) (by decide)) <| And.intro rfl <| And.intro (Nat.le_of_ble_eq_true rfl) <| Exists.intro _ <| Exists.intro _ <| And.intro (dv_X8_least_0 _ _ _ _ _ _ hX) <| And.intro rfl <| And.intro (hi 1 (by decide) (by decide)) <| And.intro (hi 2 (by decide) (by decide)) <| And.intro (hi 3 (by decide) (by decide)) <| And.intro rfl <| And.intro (Nat.le_of_ble_eq_true rfl) <| Exists.intro _ <| Exists.intro _ <| And.intro (dv_X9_least_53 _ _ _ _ _ _ hY) <| And.intro rfl <| hK)
theorem dv_X8_most_0 (v1 v2 : Int) (M M' : am_M) (x : Int) (h : X_X8_most_0 v1 v2 M = some (x, M')) : am_Calls 135 [.inr (.inr (some 0)), .inl v1, .inl v2] SH M (some (.inl x)) SH M' := by
  have e := dc_X8_most_0 v1 v2 M M' x h
  rw [show am_rk 135 = 1 from by decide +kernel] at e
  exact e
theorem dv_X9_most_53 (v1 v2 : Int) (M M' : am_M) (x : Int) (h : X_X9_most_53 v1 v2 M = some (x, M')) : am_Calls 240 [.inr (.inr (some 53)), .inl v1, .inl v2] SH M (some (.inl x)) SH M' := by
  have e := dc_X9_most_53 v1 v2 M M' x h
  rw [show am_rk 240 = 1 from by decide +kernel] at e
  exact e
theorem lw_most {L : Nat} {xs : Nat → Int} {i : Int} {M M1 M2 M' : am_M} {v w : Int} (hi : ∀ k : Int, 0 ≤ k → k < 6 → 0 ≤ wI (i + k) ∧ wI (i + k) < L) (hX : X_X8_most_0 (xs (wI (i + 1)).toNat) (xs (wI (i + 2)).toNat) M = some (v, M1)) (hY : X_X9_most_53 (xs (wI (i + 1)).toNat) (xs (wI (i + 2)).toNat) M1 = some (w, M2)) (hK : LwB L xs 52 i M2 M') : LwB L xs 32 i M M' :=
  lg_32 (And.intro (hi 1 (by decide) (by decide)) <| And.intro (hi 2 (by decide) (by decide)) <| And.intro rfl <| And.intro (Nat.le_of_ble_eq_true rfl) <| Exists.intro _ <| Exists.intro _ <| And.intro (dv_X8_most_0 _ _ _ _ _ hX) <| And.intro rfl <| And.intro (hi 1 (by decide) (by decide)) <| And.intro (hi 2 (by decide) (by decide)) <| And.intro rfl <| And.intro (Nat.le_of_ble_eq_true rfl) <| Exists.intro _ <| Exists.intro _ <| And.intro (dv_X9_most_53 _ _ _ _ _ hY) <| And.intro rfl <| hK)
theorem dv_X8_now_0 (M M' : am_M) (x : Int) (h : X_X8_now_0 M = some (x, M')) : am_Calls 136 [.inr (.inr (some 0))] SH M (some (.inl x)) SH M' := by
  have e := dc_X8_now_0 M M' x h
  rw [show am_rk 136 = 1 from by decide +kernel] at e
  exact e
theorem dv_X9_now_53 (M M' : am_M) (x : Int) (h : X_X9_now_53 M = some (x, M')) : am_Calls 241 [.inr (.inr (some 53))] SH M (some (.inl x)) SH M' := by
  have e := dc_X9_now_53 M M' x h
  rw [show am_rk 241 = 1 from by decide +kernel] at e
  exact e
theorem lw_now {L : Nat} {xs : Nat → Int} {i : Int} {M M1 M2 M' : am_M} {v w : Int} (hi : ∀ k : Int, 0 ≤ k → k < 6 → 0 ≤ wI (i + k) ∧ wI (i + k) < L) (hX : X_X8_now_0 M = some (v, M1)) (hY : X_X9_now_53 M1 = some (w, M2)) (hK : LwB L xs 52 i M2 M') : LwB L xs 33 i M M' :=
  lg_33 (And.intro rfl <| And.intro (Nat.le_of_ble_eq_true rfl) <| Exists.intro _ <| Exists.intro _ <| And.intro (dv_X8_now_0 _ _ _ hX) <| And.intro rfl <| And.intro rfl <| And.intro (Nat.le_of_ble_eq_true rfl) <| Exists.intro _ <| Exists.intro _ <| And.intro (dv_X9_now_53 _ _ _ hY) <| And.intro rfl <| hK)
theorem dv_X8_odds_0 (v1 v2 : Int) (M M' : am_M) (x : Int) (h : X_X8_odds_0 v1 v2 M = some (x, M')) : am_Calls 137 [.inr (.inr (some 0)), .inl v1, .inl v2] SH M (some (.inl x)) SH M' := by
  have e := dc_X8_odds_0 v1 v2 M M' x h
  rw [show am_rk 137 = 1 from by decide +kernel] at e
  exact e
theorem dv_X9_odds_53 (v1 v2 : Int) (M M' : am_M) (x : Int) (h : X_X9_odds_53 v1 v2 M = some (x, M')) : am_Calls 244 [.inr (.inr (some 53)), .inl v1, .inl v2] SH M (some (.inl x)) SH M' := by
  have e := dc_X9_odds_53 v1 v2 M M' x h
  rw [show am_rk 244 = 1 from by decide +kernel] at e
  exact e
theorem lw_odds {L : Nat} {xs : Nat → Int} {i : Int} {M M1 M2 M' : am_M} {v w : Int} (hi : ∀ k : Int, 0 ≤ k → k < 6 → 0 ≤ wI (i + k) ∧ wI (i + k) < L) (hX : X_X8_odds_0 (xs (wI (i + 1)).toNat) (xs (wI (i + 2)).toNat) M = some (v, M1)) (hY : X_X9_odds_53 (xs (wI (i + 1)).toNat) (xs (wI (i + 2)).toNat) M1 = some (w, M2)) (hK : LwB L xs 52 i M2 M') : LwB L xs 34 i M M' :=
  lg_34 (And.intro (hi 1 (by decide) (by decide)) <| And.intro (hi 2 (by decide) (by decide)) <| And.intro rfl <| And.intro (Nat.le_of_ble_eq_true rfl) <| Exists.intro _ <| Exists.intro _ <| And.intro (dv_X8_odds_0 _ _ _ _ _ hX) <| And.intro rfl <| And.intro (hi 1 (by decide) (by decide)) <| And.intro (hi 2 (by decide) (by decide)) <| And.intro rfl <| And.intro (Nat.le_of_ble_eq_true rfl) <| Exists.intro _ <| Exists.intro _ <| And.intro (dv_X9_odds_53 _ _ _ _ _ hY) <| And.intro rfl <| hK)
theorem dv_X8_met_0 (v1 v2 : Int) (M M' : am_M) (x : Int) (h : X_X8_met_0 v1 v2 M = some (x, M')) : am_Calls 138 [.inr (.inr (some 0)), .inl v1, .inl v2] SH M (some (.inl x)) SH M' := by
  have e := dc_X8_met_0 v1 v2 M M' x h
  rw [show am_rk 138 = 1 from by decide +kernel] at e
  exact e
theorem dv_X9_met_53 (v1 v2 : Int) (M M' : am_M) (x : Int) (h : X_X9_met_53 v1 v2 M = some (x, M')) : am_Calls 245 [.inr (.inr (some 53)), .inl v1, .inl v2] SH M (some (.inl x)) SH M' := by
  have e := dc_X9_met_53 v1 v2 M M' x h
  rw [show am_rk 245 = 1 from by decide +kernel] at e
  exact e
theorem lw_met {L : Nat} {xs : Nat → Int} {i : Int} {M M1 M2 M' : am_M} {v w : Int} (hi : ∀ k : Int, 0 ≤ k → k < 6 → 0 ≤ wI (i + k) ∧ wI (i + k) < L) (hX : X_X8_met_0 (xs (wI (i + 1)).toNat) (xs (wI (i + 2)).toNat) M = some (v, M1)) (hY : X_X9_met_53 (xs (wI (i + 1)).toNat) (xs (wI (i + 2)).toNat) M1 = some (w, M2)) (hK : LwB L xs 52 i M2 M') : LwB L xs 35 i M M' :=
  lg_35 (And.intro (hi 1 (by decide) (by decide)) <| And.intro (hi 2 (by decide) (by decide)) <| And.intro rfl <| And.intro (Nat.le_of_ble_eq_true rfl) <| Exists.intro _ <| Exists.intro _ <| And.intro (dv_X8_met_0 _ _ _ _ _ hX) <| And.intro rfl <| And.intro (hi 1 (by decide) (by decide)) <| And.intro (hi 2 (by decide) (by decide)) <| And.intro rfl <| And.intro (Nat.le_of_ble_eq_true rfl) <| Exists.intro _ <| Exists.intro _ <| And.intro (dv_X9_met_53 _ _ _ _ _ hY) <| And.intro rfl <| hK)
theorem dv_X8_hedge_0 (v1 v2 : Int) (M M' : am_M) (x : Int) (h : X_X8_hedge_0 v1 v2 M = some (x, M')) : am_Calls 139 [.inr (.inr (some 0)), .inl v1, .inl v2] SH M (some (.inl x)) SH M' := by
  have e := dc_X8_hedge_0 v1 v2 M M' x h
  rw [show am_rk 139 = 1 from by decide +kernel] at e
  exact e
theorem dv_X9_hedge_53 (v1 v2 : Int) (M M' : am_M) (x : Int) (h : X_X9_hedge_53 v1 v2 M = some (x, M')) : am_Calls 246 [.inr (.inr (some 53)), .inl v1, .inl v2] SH M (some (.inl x)) SH M' := by
  have e := dc_X9_hedge_53 v1 v2 M M' x h
  rw [show am_rk 246 = 1 from by decide +kernel] at e
  exact e
theorem lw_hedge {L : Nat} {xs : Nat → Int} {i : Int} {M M1 M2 M' : am_M} {v w : Int} (hi : ∀ k : Int, 0 ≤ k → k < 6 → 0 ≤ wI (i + k) ∧ wI (i + k) < L) (hX : X_X8_hedge_0 (xs (wI (i + 1)).toNat) (xs (wI (i + 2)).toNat) M = some (v, M1)) (hY : X_X9_hedge_53 (xs (wI (i + 1)).toNat) (xs (wI (i + 2)).toNat) M1 = some (w, M2)) (hK : LwB L xs 52 i M2 M') : LwB L xs 36 i M M' :=
  lg_36 (And.intro (hi 1 (by decide) (by decide)) <| And.intro (hi 2 (by decide) (by decide)) <| And.intro rfl <| And.intro (Nat.le_of_ble_eq_true rfl) <| Exists.intro _ <| Exists.intro _ <| And.intro (dv_X8_hedge_0 _ _ _ _ _ hX) <| And.intro rfl <| And.intro (hi 1 (by decide) (by decide)) <| And.intro (hi 2 (by decide) (by decide)) <| And.intro rfl <| And.intro (Nat.le_of_ble_eq_true rfl) <| Exists.intro _ <| Exists.intro _ <| And.intro (dv_X9_hedge_53 _ _ _ _ _ hY) <| And.intro rfl <| hK)
theorem dv_X8_game_0 (v1 v2 : Int) (M M' : am_M) (x : Int) (h : X_X8_game_0 v1 v2 M = some (x, M')) : am_Calls 140 [.inr (.inr (some 0)), .inl v1, .inl v2] SH M (some (.inl x)) SH M' := by
  have e := dc_X8_game_0 v1 v2 M M' x h
  rw [show am_rk 140 = 1 from by decide +kernel] at e
  exact e
theorem dv_X9_game_53 (v1 v2 : Int) (M M' : am_M) (x : Int) (h : X_X9_game_53 v1 v2 M = some (x, M')) : am_Calls 253 [.inr (.inr (some 53)), .inl v1, .inl v2] SH M (some (.inl x)) SH M' := by
  have e := dc_X9_game_53 v1 v2 M M' x h
  rw [show am_rk 253 = 1 from by decide +kernel] at e
  exact e
theorem lw_game {L : Nat} {xs : Nat → Int} {i : Int} {M M1 M2 M' : am_M} {v w : Int} (hi : ∀ k : Int, 0 ≤ k → k < 6 → 0 ≤ wI (i + k) ∧ wI (i + k) < L) (hX : X_X8_game_0 (xs (wI (i + 1)).toNat) (xs (wI (i + 2)).toNat) M = some (v, M1)) (hY : X_X9_game_53 (xs (wI (i + 1)).toNat) (xs (wI (i + 2)).toNat) M1 = some (w, M2)) (hK : LwB L xs 52 i M2 M') : LwB L xs 37 i M M' :=
  lg_37 (And.intro (hi 1 (by decide) (by decide)) <| And.intro (hi 2 (by decide) (by decide)) <| And.intro rfl <| And.intro (Nat.le_of_ble_eq_true rfl) <| Exists.intro _ <| Exists.intro _ <| And.intro (dv_X8_game_0 _ _ _ _ _ hX) <| And.intro rfl <| And.intro (hi 1 (by decide) (by decide)) <| And.intro (hi 2 (by decide) (by decide)) <| And.intro rfl <| And.intro (Nat.le_of_ble_eq_true rfl) <| Exists.intro _ <| Exists.intro _ <| And.intro (dv_X9_game_53 _ _ _ _ _ hY) <| And.intro rfl <| hK)
theorem dv_X8_said_0 (v1 v2 : Int) (M M' : am_M) (x : Int) (h : X_X8_said_0 v1 v2 M = some (x, M')) : am_Calls 141 [.inr (.inr (some 0)), .inl v1, .inl v2] SH M (some (.inl x)) SH M' := by
  have e := dc_X8_said_0 v1 v2 M M' x h
  rw [show am_rk 141 = 1 from by decide +kernel] at e
  exact e
theorem dv_X9_said_53 (v1 v2 : Int) (M M' : am_M) (x : Int) (h : X_X9_said_53 v1 v2 M = some (x, M')) : am_Calls 254 [.inr (.inr (some 53)), .inl v1, .inl v2] SH M (some (.inl x)) SH M' := by
  have e := dc_X9_said_53 v1 v2 M M' x h
  rw [show am_rk 254 = 1 from by decide +kernel] at e
  exact e
theorem lw_said {L : Nat} {xs : Nat → Int} {i : Int} {M M1 M2 M' : am_M} {v w : Int} (hi : ∀ k : Int, 0 ≤ k → k < 6 → 0 ≤ wI (i + k) ∧ wI (i + k) < L) (hX : X_X8_said_0 (xs (wI (i + 1)).toNat) (xs (wI (i + 2)).toNat) M = some (v, M1)) (hY : X_X9_said_53 (xs (wI (i + 1)).toNat) (xs (wI (i + 2)).toNat) M1 = some (w, M2)) (hK : LwB L xs 52 i M2 M') : LwB L xs 38 i M M' :=
  lg_38 (And.intro (hi 1 (by decide) (by decide)) <| And.intro (hi 2 (by decide) (by decide)) <| And.intro rfl <| And.intro (Nat.le_of_ble_eq_true rfl) <| Exists.intro _ <| Exists.intro _ <| And.intro (dv_X8_said_0 _ _ _ _ _ hX) <| And.intro rfl <| And.intro (hi 1 (by decide) (by decide)) <| And.intro (hi 2 (by decide) (by decide)) <| And.intro rfl <| And.intro (Nat.le_of_ble_eq_true rfl) <| Exists.intro _ <| Exists.intro _ <| And.intro (dv_X9_said_53 _ _ _ _ _ hY) <| And.intro rfl <| hK)
theorem dv_X8_calm_0 (v1 v2 : Int) (M M' : am_M) (x : Int) (h : X_X8_calm_0 v1 v2 M = some (x, M')) : am_Calls 142 [.inr (.inr (some 0)), .inl v1, .inl v2] SH M (some (.inl x)) SH M' := by
  have e := dc_X8_calm_0 v1 v2 M M' x h
  rw [show am_rk 142 = 1 from by decide +kernel] at e
  exact e
theorem dv_X9_calm_53 (v1 v2 : Int) (M M' : am_M) (x : Int) (h : X_X9_calm_53 v1 v2 M = some (x, M')) : am_Calls 255 [.inr (.inr (some 53)), .inl v1, .inl v2] SH M (some (.inl x)) SH M' := by
  have e := dc_X9_calm_53 v1 v2 M M' x h
  rw [show am_rk 255 = 1 from by decide +kernel] at e
  exact e
theorem lw_calm {L : Nat} {xs : Nat → Int} {i : Int} {M M1 M2 M' : am_M} {v w : Int} (hi : ∀ k : Int, 0 ≤ k → k < 6 → 0 ≤ wI (i + k) ∧ wI (i + k) < L) (hX : X_X8_calm_0 (xs (wI (i + 1)).toNat) (xs (wI (i + 2)).toNat) M = some (v, M1)) (hY : X_X9_calm_53 (xs (wI (i + 1)).toNat) (xs (wI (i + 2)).toNat) M1 = some (w, M2)) (hK : LwB L xs 52 i M2 M') : LwB L xs 39 i M M' :=
  lg_39 (And.intro (hi 1 (by decide) (by decide)) <| And.intro (hi 2 (by decide) (by decide)) <| And.intro rfl <| And.intro (Nat.le_of_ble_eq_true rfl) <| Exists.intro _ <| Exists.intro _ <| And.intro (dv_X8_calm_0 _ _ _ _ _ hX) <| And.intro rfl <| And.intro (hi 1 (by decide) (by decide)) <| And.intro (hi 2 (by decide) (by decide)) <| And.intro rfl <| And.intro (Nat.le_of_ble_eq_true rfl) <| Exists.intro _ <| Exists.intro _ <| And.intro (dv_X9_calm_53 _ _ _ _ _ hY) <| And.intro rfl <| hK)
theorem dv_X8_law_0 (v1 v2 : Int) (M M' : am_M) (x : Int) (h : X_X8_law_0 v1 v2 M = some (x, M')) : am_Calls 143 [.inr (.inr (some 0)), .inl v1, .inl v2] SH M (some (.inl x)) SH M' := by
  have e := dc_X8_law_0 v1 v2 M M' x h
  rw [show am_rk 143 = 1 from by decide +kernel] at e
  exact e
theorem dv_X9_law_53 (v1 v2 : Int) (M M' : am_M) (x : Int) (h : X_X9_law_53 v1 v2 M = some (x, M')) : am_Calls 256 [.inr (.inr (some 53)), .inl v1, .inl v2] SH M (some (.inl x)) SH M' := by
  have e := dc_X9_law_53 v1 v2 M M' x h
  rw [show am_rk 256 = 1 from by decide +kernel] at e
  exact e
theorem lw_law {L : Nat} {xs : Nat → Int} {i : Int} {M M1 M2 M' : am_M} {v w : Int} (hi : ∀ k : Int, 0 ≤ k → k < 6 → 0 ≤ wI (i + k) ∧ wI (i + k) < L) (hX : X_X8_law_0 (xs (wI (i + 1)).toNat) (xs (wI (i + 2)).toNat) M = some (v, M1)) (hY : X_X9_law_53 (xs (wI (i + 1)).toNat) (xs (wI (i + 2)).toNat) M1 = some (w, M2)) (hK : LwB L xs 52 i M2 M') : LwB L xs 40 i M M' :=
  lg_40 (And.intro (hi 1 (by decide) (by decide)) <| And.intro (hi 2 (by decide) (by decide)) <| And.intro rfl <| And.intro (Nat.le_of_ble_eq_true rfl) <| Exists.intro _ <| Exists.intro _ <| And.intro (dv_X8_law_0 _ _ _ _ _ hX) <| And.intro rfl <| And.intro (hi 1 (by decide) (by decide)) <| And.intro (hi 2 (by decide) (by decide)) <| And.intro rfl <| And.intro (Nat.le_of_ble_eq_true rfl) <| Exists.intro _ <| Exists.intro _ <| And.intro (dv_X9_law_53 _ _ _ _ _ hY) <| And.intro rfl <| hK)
theorem dv_X8_books_0 (v1 : Int) (M M' : am_M) (x : Int) (h : X_X8_books_0 v1 M = some (x, M')) : am_Calls 144 [.inr (.inr (some 0)), .inl v1] SH M (some (.inl x)) SH M' := by
  have e := dc_X8_books_0 v1 M M' x h
  rw [show am_rk 144 = 1 from by decide +kernel] at e
  exact e
theorem dv_X9_books_53 (v1 : Int) (M M' : am_M) (x : Int) (h : X_X9_books_53 v1 M = some (x, M')) : am_Calls 259 [.inr (.inr (some 53)), .inl v1] SH M (some (.inl x)) SH M' := by
  have e := dc_X9_books_53 v1 M M' x h
  rw [show am_rk 259 = 1 from by decide +kernel] at e
  exact e
theorem lw_books {L : Nat} {xs : Nat → Int} {i : Int} {M M1 M2 M' : am_M} {v w : Int} (hi : ∀ k : Int, 0 ≤ k → k < 6 → 0 ≤ wI (i + k) ∧ wI (i + k) < L) (hX : X_X8_books_0 (xs (wI (i + 1)).toNat) M = some (v, M1)) (hY : X_X9_books_53 (xs (wI (i + 1)).toNat) M1 = some (w, M2)) (hK : LwB L xs 52 i M2 M') : LwB L xs 41 i M M' :=
  lg_41 (And.intro (hi 1 (by decide) (by decide)) <| And.intro rfl <| And.intro (Nat.le_of_ble_eq_true rfl) <| Exists.intro _ <| Exists.intro _ <| And.intro (dv_X8_books_0 _ _ _ _ hX) <| And.intro rfl <| And.intro (hi 1 (by decide) (by decide)) <| And.intro rfl <| And.intro (Nat.le_of_ble_eq_true rfl) <| Exists.intro _ <| Exists.intro _ <| And.intro (dv_X9_books_53 _ _ _ _ hY) <| And.intro rfl <| hK)
theorem dv_X8_kinds_0 (v1 : Int) (M M' : am_M) (x : Int) (h : X_X8_kinds_0 v1 M = some (x, M')) : am_Calls 145 [.inr (.inr (some 0)), .inl v1] SH M (some (.inl x)) SH M' := by
  have e := dc_X8_kinds_0 v1 M M' x h
  rw [show am_rk 145 = 1 from by decide +kernel] at e
  exact e
theorem dv_X9_kinds_53 (v1 : Int) (M M' : am_M) (x : Int) (h : X_X9_kinds_53 v1 M = some (x, M')) : am_Calls 260 [.inr (.inr (some 53)), .inl v1] SH M (some (.inl x)) SH M' := by
  have e := dc_X9_kinds_53 v1 M M' x h
  rw [show am_rk 260 = 1 from by decide +kernel] at e
  exact e
theorem lw_kinds {L : Nat} {xs : Nat → Int} {i : Int} {M M1 M2 M' : am_M} {v w : Int} (hi : ∀ k : Int, 0 ≤ k → k < 6 → 0 ≤ wI (i + k) ∧ wI (i + k) < L) (hX : X_X8_kinds_0 (xs (wI (i + 1)).toNat) M = some (v, M1)) (hY : X_X9_kinds_53 (xs (wI (i + 1)).toNat) M1 = some (w, M2)) (hK : LwB L xs 52 i M2 M') : LwB L xs 42 i M M' :=
  lg_42 (And.intro (hi 1 (by decide) (by decide)) <| And.intro rfl <| And.intro (Nat.le_of_ble_eq_true rfl) <| Exists.intro _ <| Exists.intro _ <| And.intro (dv_X8_kinds_0 _ _ _ _ hX) <| And.intro rfl <| And.intro (hi 1 (by decide) (by decide)) <| And.intro rfl <| And.intro (Nat.le_of_ble_eq_true rfl) <| Exists.intro _ <| Exists.intro _ <| And.intro (dv_X9_kinds_53 _ _ _ _ hY) <| And.intro rfl <| hK)
theorem dv_X8_lots_0 (v1 v2 : Int) (M M' : am_M) (x : Int) (h : X_X8_lots_0 v1 v2 M = some (x, M')) : am_Calls 146 [.inr (.inr (some 0)), .inl v1, .inl v2] SH M (some (.inl x)) SH M' := by
  have e := dc_X8_lots_0 v1 v2 M M' x h
  rw [show am_rk 146 = 1 from by decide +kernel] at e
  exact e
theorem dv_X9_lots_53 (v1 v2 : Int) (M M' : am_M) (x : Int) (h : X_X9_lots_53 v1 v2 M = some (x, M')) : am_Calls 261 [.inr (.inr (some 53)), .inl v1, .inl v2] SH M (some (.inl x)) SH M' := by
  have e := dc_X9_lots_53 v1 v2 M M' x h
  rw [show am_rk 261 = 1 from by decide +kernel] at e
  exact e
theorem lw_lots {L : Nat} {xs : Nat → Int} {i : Int} {M M1 M2 M' : am_M} {v w : Int} (hi : ∀ k : Int, 0 ≤ k → k < 6 → 0 ≤ wI (i + k) ∧ wI (i + k) < L) (hX : X_X8_lots_0 (xs (wI (i + 1)).toNat) (xs (wI (i + 2)).toNat) M = some (v, M1)) (hY : X_X9_lots_53 (xs (wI (i + 1)).toNat) (xs (wI (i + 2)).toNat) M1 = some (w, M2)) (hK : LwB L xs 52 i M2 M') : LwB L xs 43 i M M' :=
  lg_43 (And.intro (hi 1 (by decide) (by decide)) <| And.intro (hi 2 (by decide) (by decide)) <| And.intro rfl <| And.intro (Nat.le_of_ble_eq_true rfl) <| Exists.intro _ <| Exists.intro _ <| And.intro (dv_X8_lots_0 _ _ _ _ _ hX) <| And.intro rfl <| And.intro (hi 1 (by decide) (by decide)) <| And.intro (hi 2 (by decide) (by decide)) <| And.intro rfl <| And.intro (Nat.le_of_ble_eq_true rfl) <| Exists.intro _ <| Exists.intro _ <| And.intro (dv_X9_lots_53 _ _ _ _ _ hY) <| And.intro rfl <| hK)
theorem dv_X8_asked_0 (M M' : am_M) (x : Int) (h : X_X8_asked_0 M = some (x, M')) : am_Calls 147 [.inr (.inr (some 0))] SH M (some (.inl x)) SH M' := by
  have e := dc_X8_asked_0 M M' x h
  rw [show am_rk 147 = 1 from by decide +kernel] at e
  exact e
theorem dv_X9_asked_53 (M M' : am_M) (x : Int) (h : X_X9_asked_53 M = some (x, M')) : am_Calls 262 [.inr (.inr (some 53))] SH M (some (.inl x)) SH M' := by
  have e := dc_X9_asked_53 M M' x h
  rw [show am_rk 262 = 1 from by decide +kernel] at e
  exact e
theorem lw_asked {L : Nat} {xs : Nat → Int} {i : Int} {M M1 M2 M' : am_M} {v w : Int} (hi : ∀ k : Int, 0 ≤ k → k < 6 → 0 ≤ wI (i + k) ∧ wI (i + k) < L) (hX : X_X8_asked_0 M = some (v, M1)) (hY : X_X9_asked_53 M1 = some (w, M2)) (hK : LwB L xs 52 i M2 M') : LwB L xs 44 i M M' :=
  lg_44 (And.intro rfl <| And.intro (Nat.le_of_ble_eq_true rfl) <| Exists.intro _ <| Exists.intro _ <| And.intro (dv_X8_asked_0 _ _ _ hX) <| And.intro rfl <| And.intro rfl <| And.intro (Nat.le_of_ble_eq_true rfl) <| Exists.intro _ <| Exists.intro _ <| And.intro (dv_X9_asked_53 _ _ _ hY) <| And.intro rfl <| hK)
theorem dv_X8_upper_0 (M M' : am_M) (x : Int) (h : X_X8_upper_0 M = some (x, M')) : am_Calls 148 [.inr (.inr (some 0))] SH M (some (.inr (.inl x))) SH M' := by
  have e := dc_X8_upper_0 M M' x h
  rw [show am_rk 148 = 2 from by decide +kernel] at e
  exact e
theorem dv_X9_upper_53 (M M' : am_M) (x : Int) (h : X_X9_upper_53 M = some (x, M')) : am_Calls 263 [.inr (.inr (some 53))] SH M (some (.inr (.inl x))) SH M' := by
  have e := dc_X9_upper_53 M M' x h
  rw [show am_rk 263 = 2 from by decide +kernel] at e
  exact e
theorem lw_upper {L : Nat} {xs : Nat → Int} {i : Int} {M M1 M2 M' : am_M} {v w : Int} (hi : ∀ k : Int, 0 ≤ k → k < 6 → 0 ≤ wI (i + k) ∧ wI (i + k) < L) (hX : X_X8_upper_0 M = some (v, M1)) (hY : X_X9_upper_53 M1 = some (w, M2)) (hK : LwB L xs 52 i M2 M') : LwB L xs 45 i M M' :=
  lg_45 (And.intro rfl <| And.intro (Nat.le_of_ble_eq_true rfl) <| Exists.intro _ <| Exists.intro _ <| And.intro (dv_X8_upper_0 _ _ _ hX) <| And.intro rfl <| And.intro rfl <| And.intro (Nat.le_of_ble_eq_true rfl) <| Exists.intro _ <| Exists.intro _ <| And.intro (dv_X9_upper_53 _ _ _ hY) <| And.intro rfl <| hK)
theorem dv_X8_lower_0 (M M' : am_M) (x : Int) (h : X_X8_lower_0 M = some (x, M')) : am_Calls 149 [.inr (.inr (some 0))] SH M (some (.inr (.inl x))) SH M' := by
  have e := dc_X8_lower_0 M M' x h
  rw [show am_rk 149 = 2 from by decide +kernel] at e
  exact e
theorem dv_X9_lower_53 (M M' : am_M) (x : Int) (h : X_X9_lower_53 M = some (x, M')) : am_Calls 264 [.inr (.inr (some 53))] SH M (some (.inr (.inl x))) SH M' := by
  have e := dc_X9_lower_53 M M' x h
  rw [show am_rk 264 = 2 from by decide +kernel] at e
  exact e
theorem lw_lower {L : Nat} {xs : Nat → Int} {i : Int} {M M1 M2 M' : am_M} {v w : Int} (hi : ∀ k : Int, 0 ≤ k → k < 6 → 0 ≤ wI (i + k) ∧ wI (i + k) < L) (hX : X_X8_lower_0 M = some (v, M1)) (hY : X_X9_lower_53 M1 = some (w, M2)) (hK : LwB L xs 52 i M2 M') : LwB L xs 46 i M M' :=
  lg_46 (And.intro rfl <| And.intro (Nat.le_of_ble_eq_true rfl) <| Exists.intro _ <| Exists.intro _ <| And.intro (dv_X8_lower_0 _ _ _ hX) <| And.intro rfl <| And.intro rfl <| And.intro (Nat.le_of_ble_eq_true rfl) <| Exists.intro _ <| Exists.intro _ <| And.intro (dv_X9_lower_53 _ _ _ hY) <| And.intro rfl <| hK)
theorem dv_X8_count_0 (v1 : Int) (M M' : am_M) (x : Int) (h : X_X8_count_0 v1 M = some (x, M')) : am_Calls 150 [.inr (.inr (some 0)), .inl v1] SH M (some (.inl x)) SH M' := by
  have e := dc_X8_count_0 v1 M M' x h
  rw [show am_rk 150 = 1 from by decide +kernel] at e
  exact e
theorem dv_X9_count_53 (v1 : Int) (M M' : am_M) (x : Int) (h : X_X9_count_53 v1 M = some (x, M')) : am_Calls 268 [.inr (.inr (some 53)), .inl v1] SH M (some (.inl x)) SH M' := by
  have e := dc_X9_count_53 v1 M M' x h
  rw [show am_rk 268 = 1 from by decide +kernel] at e
  exact e
theorem lw_count {L : Nat} {xs : Nat → Int} {i : Int} {M M1 M2 M' : am_M} {v w : Int} (hi : ∀ k : Int, 0 ≤ k → k < 6 → 0 ≤ wI (i + k) ∧ wI (i + k) < L) (hX : X_X8_count_0 (xs (wI (i + 1)).toNat) M = some (v, M1)) (hY : X_X9_count_53 (xs (wI (i + 1)).toNat) M1 = some (w, M2)) (hK : LwB L xs 52 i M2 M') : LwB L xs 47 i M M' :=
  lg_47 (And.intro (hi 1 (by decide) (by decide)) <| And.intro rfl <| And.intro (Nat.le_of_ble_eq_true rfl) <| Exists.intro _ <| Exists.intro _ <| And.intro (dv_X8_count_0 _ _ _ _ hX) <| And.intro rfl <| And.intro (hi 1 (by decide) (by decide)) <| And.intro rfl <| And.intro (Nat.le_of_ble_eq_true rfl) <| Exists.intro _ <| Exists.intro _ <| And.intro (dv_X9_count_53 _ _ _ _ hY) <| And.intro rfl <| hK)
theorem dv_X8_finding_0 (M M' : am_M) (x : Int) (h : X_X8_finding_0 M = some (x, M')) : am_Calls 151 [.inr (.inr (some 0))] SH M (some (.inl x)) SH M' := by
  have e := dc_X8_finding_0 M M' x h
  rw [show am_rk 151 = 1 from by decide +kernel] at e
  exact e
theorem dv_X9_finding_53 (M M' : am_M) (x : Int) (h : X_X9_finding_53 M = some (x, M')) : am_Calls 269 [.inr (.inr (some 53))] SH M (some (.inl x)) SH M' := by
  have e := dc_X9_finding_53 M M' x h
  rw [show am_rk 269 = 1 from by decide +kernel] at e
  exact e
theorem lw_finding {L : Nat} {xs : Nat → Int} {i : Int} {M M1 M2 M' : am_M} {v w : Int} (hi : ∀ k : Int, 0 ≤ k → k < 6 → 0 ≤ wI (i + k) ∧ wI (i + k) < L) (hX : X_X8_finding_0 M = some (v, M1)) (hY : X_X9_finding_53 M1 = some (w, M2)) (hK : LwB L xs 52 i M2 M') : LwB L xs 48 i M M' :=
  lg_48 (And.intro rfl <| And.intro (Nat.le_of_ble_eq_true rfl) <| Exists.intro _ <| Exists.intro _ <| And.intro (dv_X8_finding_0 _ _ _ hX) <| And.intro rfl <| And.intro rfl <| And.intro (Nat.le_of_ble_eq_true rfl) <| Exists.intro _ <| Exists.intro _ <| And.intro (dv_X9_finding_53 _ _ _ hY) <| And.intro rfl <| hK)
theorem dv_X8_findings_0 (v1 : Int) (M M' : am_M) (x : Int) (h : X_X8_findings_0 v1 M = some (x, M')) : am_Calls 152 [.inr (.inr (some 0)), .inl v1] SH M (some (.inl x)) SH M' := by
  have e := dc_X8_findings_0 v1 M M' x h
  rw [show am_rk 152 = 1 from by decide +kernel] at e
  exact e
theorem dv_X9_findings_53 (v1 : Int) (M M' : am_M) (x : Int) (h : X_X9_findings_53 v1 M = some (x, M')) : am_Calls 270 [.inr (.inr (some 53)), .inl v1] SH M (some (.inl x)) SH M' := by
  have e := dc_X9_findings_53 v1 M M' x h
  rw [show am_rk 270 = 1 from by decide +kernel] at e
  exact e
theorem lw_findings {L : Nat} {xs : Nat → Int} {i : Int} {M M1 M2 M' : am_M} {v w : Int} (hi : ∀ k : Int, 0 ≤ k → k < 6 → 0 ≤ wI (i + k) ∧ wI (i + k) < L) (hX : X_X8_findings_0 (xs (wI (i + 1)).toNat) M = some (v, M1)) (hY : X_X9_findings_53 (xs (wI (i + 1)).toNat) M1 = some (w, M2)) (hK : LwB L xs 52 i M2 M') : LwB L xs 49 i M M' :=
  lg_49 (And.intro (hi 1 (by decide) (by decide)) <| And.intro rfl <| And.intro (Nat.le_of_ble_eq_true rfl) <| Exists.intro _ <| Exists.intro _ <| And.intro (dv_X8_findings_0 _ _ _ _ hX) <| And.intro rfl <| And.intro (hi 1 (by decide) (by decide)) <| And.intro rfl <| And.intro (Nat.le_of_ble_eq_true rfl) <| Exists.intro _ <| Exists.intro _ <| And.intro (dv_X9_findings_53 _ _ _ _ hY) <| And.intro rfl <| hK)
theorem dv_X8_digest_0 (M M' : am_M) (x : Int) (h : X_X8_digest_0 M = some (x, M')) : am_Calls 153 [.inr (.inr (some 0))] SH M (some (.inr (.inl x))) SH M' := by
  have e := dc_X8_digest_0 M M' x h
  rw [show am_rk 153 = 2 from by decide +kernel] at e
  exact e
theorem dv_X9_digest_53 (M M' : am_M) (x : Int) (h : X_X9_digest_53 M = some (x, M')) : am_Calls 271 [.inr (.inr (some 53))] SH M (some (.inr (.inl x))) SH M' := by
  have e := dc_X9_digest_53 M M' x h
  rw [show am_rk 271 = 2 from by decide +kernel] at e
  exact e
theorem lw_digest {L : Nat} {xs : Nat → Int} {i : Int} {M M1 M2 M' : am_M} {v w : Int} (hi : ∀ k : Int, 0 ≤ k → k < 6 → 0 ≤ wI (i + k) ∧ wI (i + k) < L) (hX : X_X8_digest_0 M = some (v, M1)) (hY : X_X9_digest_53 M1 = some (w, M2)) (hv : wL v = wL w) (hK : LwB L xs 52 i M2 M') : LwB L xs 50 i M M' :=
  lg_50 (And.intro rfl <| And.intro (Nat.le_of_ble_eq_true rfl) <| Exists.intro _ <| Exists.intro _ <| And.intro (dv_X8_digest_0 _ _ _ hX) <| And.intro rfl <| And.intro (Nat.le_of_ble_eq_true rfl) <| Exists.intro _ <| Exists.intro _ <| And.intro (dv_X9_digest_53 _ _ _ hY) <| And.intro (fun _ => hK) (fun q => absurd (lc_z hv) q))
end
