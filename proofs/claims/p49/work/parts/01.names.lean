-- ===== PART A: goes FIRST, ahead of the names: the tables' words, and 'selects' of the private methods out of them =====
/-- a private method of a class that the tables say can be made, by its rows of tables_1 -/
noncomputable def lw_okq (q : MethodName × Nat) : Prop := (q.1.cls ≠ "java/lang/invoke/MethodHandle" ∧ q.1.cls ≠ "java/lang/invoke/VarHandle") ∧ Cond.instantiable q.1.cls q.2 ∈ tables_1 ∧ Cond.privateMethod q.1 ∈ tables_1 ∧ Cond.instanceMethod q.1 ∈ tables_1
noncomputable def am_tc : List (List Cond) := [tables_1_1, tables_1_2, tables_1_3, tables_1_4, tables_1_5, tables_1_6, tables_1_7]
theorem am_tc_e : ∀ l ∈ am_tc, ∀ w ∈ l, w ∈ tables_1 := by
  intro l hl w hw
  simp only [am_tc, List.mem_cons, List.not_mem_nil, or_false] at hl
  unfold tables_1
  simp only [List.mem_append]
  rcases hl with rfl | rfl | rfl | rfl | rfl | rfl | rfl <;> simp only [hw, true_or, or_true]
theorem tq_1 {w : Cond} (h : w ∈ tables_1_1) : w ∈ tables_1 := am_tc_e _ (List.mem_of_getElem? (i := 0) rfl) _ h
theorem tq_2 {w : Cond} (h : w ∈ tables_1_2) : w ∈ tables_1 := am_tc_e _ (List.mem_of_getElem? (i := 1) rfl) _ h
theorem tq_3 {w : Cond} (h : w ∈ tables_1_3) : w ∈ tables_1 := am_tc_e _ (List.mem_of_getElem? (i := 2) rfl) _ h
theorem tq_4 {w : Cond} (h : w ∈ tables_1_4) : w ∈ tables_1 := am_tc_e _ (List.mem_of_getElem? (i := 3) rfl) _ h
theorem tq_5 {w : Cond} (h : w ∈ tables_1_5) : w ∈ tables_1 := am_tc_e _ (List.mem_of_getElem? (i := 4) rfl) _ h
theorem tq_6 {w : Cond} (h : w ∈ tables_1_6) : w ∈ tables_1 := am_tc_e _ (List.mem_of_getElem? (i := 5) rfl) _ h
theorem tq_7 {w : Cond} (h : w ∈ tables_1_7) : w ∈ tables_1 := am_tc_e _ (List.mem_of_getElem? (i := 6) rfl) _ h
theorem lw_p0 : lw_okq (⟨"PaceBorder", "find", "(I)I"⟩, 16) := ⟨⟨by decide +kernel, by decide +kernel⟩, tq_1 (List.mem_of_getElem? (i := 16) rfl), tq_2 (List.mem_of_getElem? (i := 61) rfl), tq_2 (List.mem_of_getElem? (i := 62) rfl)⟩
theorem lw_p1 : lw_okq (⟨"PaceBorder", "tell", "(I)I"⟩, 16) := ⟨⟨by decide +kernel, by decide +kernel⟩, tq_1 (List.mem_of_getElem? (i := 16) rfl), tq_2 (List.mem_of_getElem? (i := 98) rfl), tq_2 (List.mem_of_getElem? (i := 99) rfl)⟩
theorem lw_p2 : lw_okq (⟨"PaceBorder$Reader", "skipBlanks", "()V"⟩, 7) := ⟨⟨by decide +kernel, by decide +kernel⟩, tq_1 (List.mem_of_getElem? (i := 53) rfl), tq_2 (List.mem_of_getElem? (i := 160) rfl), tq_2 (List.mem_of_getElem? (i := 161) rfl)⟩
theorem lw_p3 : lw_okq (⟨"PaceBorder$Reader", "sign", "()I"⟩, 7) := ⟨⟨by decide +kernel, by decide +kernel⟩, tq_1 (List.mem_of_getElem? (i := 53) rfl), tq_2 (List.mem_of_getElem? (i := 164) rfl), tq_2 (List.mem_of_getElem? (i := 165) rfl)⟩
theorem lw_p4 : lw_okq (⟨"PaceBorder$Reader", "readEnd", "()Z"⟩, 7) := ⟨⟨by decide +kernel, by decide +kernel⟩, tq_1 (List.mem_of_getElem? (i := 53) rfl), tq_2 (List.mem_of_getElem? (i := 169) rfl), tq_2 (List.mem_of_getElem? (i := 170) rfl)⟩
theorem lw_p5 : lw_okq (⟨"PaceBorder$Reader", "readFigure", "(II)I"⟩, 7) := ⟨⟨by decide +kernel, by decide +kernel⟩, tq_1 (List.mem_of_getElem? (i := 53) rfl), tq_2 (List.mem_of_getElem? (i := 173) rfl), tq_2 (List.mem_of_getElem? (i := 174) rfl)⟩
theorem lw_p6 : lw_okq (⟨"PaceBorder$Reader", "readStrip", "()Z"⟩, 7) := ⟨⟨by decide +kernel, by decide +kernel⟩, tq_1 (List.mem_of_getElem? (i := 53) rfl), tq_2 (List.mem_of_getElem? (i := 178) rfl), tq_2 (List.mem_of_getElem? (i := 179) rfl)⟩
theorem lw_p7 : lw_okq (⟨"PaceBorder", "stripFact", "(II)I"⟩, 16) := ⟨⟨by decide +kernel, by decide +kernel⟩, tq_1 (List.mem_of_getElem? (i := 16) rfl), tq_2 (List.mem_of_getElem? (i := 215) rfl), tq_2 (List.mem_of_getElem? (i := 216) rfl)⟩
theorem lw_p8 : lw_okq (⟨"PaceBorder", "hasNoLand", "()Z"⟩, 16) := ⟨⟨by decide +kernel, by decide +kernel⟩, tq_1 (List.mem_of_getElem? (i := 16) rfl), tq_3 (List.mem_of_getElem? (i := 37) rfl), tq_3 (List.mem_of_getElem? (i := 38) rfl)⟩
theorem lw_p9 : lw_okq (⟨"PaceBorder$Days", "collect", "(LPaceBorder$Ground;)V"⟩, 8) := ⟨⟨by decide +kernel, by decide +kernel⟩, tq_1 (List.mem_of_getElem? (i := 110) rfl), tq_3 (List.mem_of_getElem? (i := 74) rfl), tq_3 (List.mem_of_getElem? (i := 75) rfl)⟩
theorem lw_p10 : lw_okq (⟨"PaceBorder", "canGo", "(I)Z"⟩, 16) := ⟨⟨by decide +kernel, by decide +kernel⟩, tq_1 (List.mem_of_getElem? (i := 16) rfl), tq_3 (List.mem_of_getElem? (i := 140) rfl), tq_3 (List.mem_of_getElem? (i := 141) rfl)⟩
theorem lw_p11 : lw_okq (⟨"PaceBorder$Plan", "tollAt", "(II)I"⟩, 7) := ⟨⟨by decide +kernel, by decide +kernel⟩, tq_1 (List.mem_of_getElem? (i := 153) rfl), tq_3 (List.mem_of_getElem? (i := 161) rfl), tq_3 (List.mem_of_getElem? (i := 162) rfl)⟩
theorem lw_p12 : lw_okq (⟨"PaceBorder$Plan", "spread", "(II)I"⟩, 7) := ⟨⟨by decide +kernel, by decide +kernel⟩, tq_1 (List.mem_of_getElem? (i := 153) rfl), tq_3 (List.mem_of_getElem? (i := 178) rfl), tq_3 (List.mem_of_getElem? (i := 179) rfl)⟩
theorem lw_p13 : lw_okq (⟨"PaceBorder$Plan", "placesBehind", "(II)I"⟩, 7) := ⟨⟨by decide +kernel, by decide +kernel⟩, tq_1 (List.mem_of_getElem? (i := 153) rfl), tq_3 (List.mem_of_getElem? (i := 182) rfl), tq_3 (List.mem_of_getElem? (i := 183) rfl)⟩
theorem lw_p14 : lw_okq (⟨"PaceBorder$Plan", "setCost", "(III)V"⟩, 7) := ⟨⟨by decide +kernel, by decide +kernel⟩, tq_1 (List.mem_of_getElem? (i := 153) rfl), tq_3 (List.mem_of_getElem? (i := 196) rfl), tq_3 (List.mem_of_getElem? (i := 197) rfl)⟩
theorem lw_p15 : lw_okq (⟨"PaceBorder$Plan", "leastCost", "(II)I"⟩, 7) := ⟨⟨by decide +kernel, by decide +kernel⟩, tq_1 (List.mem_of_getElem? (i := 153) rfl), tq_3 (List.mem_of_getElem? (i := 200) rfl), tq_3 (List.mem_of_getElem? (i := 201) rfl)⟩
noncomputable def lw_privs_1 : List (MethodName × Nat) := [(⟨"PaceBorder", "find", "(I)I"⟩, 16), (⟨"PaceBorder", "tell", "(I)I"⟩, 16), (⟨"PaceBorder$Reader", "skipBlanks", "()V"⟩, 7), (⟨"PaceBorder$Reader", "sign", "()I"⟩, 7), (⟨"PaceBorder$Reader", "readEnd", "()Z"⟩, 7), (⟨"PaceBorder$Reader", "readFigure", "(II)I"⟩, 7), (⟨"PaceBorder$Reader", "readStrip", "()Z"⟩, 7), (⟨"PaceBorder", "stripFact", "(II)I"⟩, 16), (⟨"PaceBorder", "hasNoLand", "()Z"⟩, 16), (⟨"PaceBorder$Days", "collect", "(LPaceBorder$Ground;)V"⟩, 8), (⟨"PaceBorder", "canGo", "(I)Z"⟩, 16), (⟨"PaceBorder$Plan", "tollAt", "(II)I"⟩, 7), (⟨"PaceBorder$Plan", "spread", "(II)I"⟩, 7), (⟨"PaceBorder$Plan", "placesBehind", "(II)I"⟩, 7), (⟨"PaceBorder$Plan", "setCost", "(III)V"⟩, 7), (⟨"PaceBorder$Plan", "leastCost", "(II)I"⟩, 7)]
theorem lw_r1 : ∀ q ∈ lw_privs_1, lw_okq q := List.forall_mem_cons.mpr ⟨lw_p0, List.forall_mem_cons.mpr ⟨lw_p1, List.forall_mem_cons.mpr ⟨lw_p2, List.forall_mem_cons.mpr ⟨lw_p3, List.forall_mem_cons.mpr ⟨lw_p4, List.forall_mem_cons.mpr ⟨lw_p5, List.forall_mem_cons.mpr ⟨lw_p6, List.forall_mem_cons.mpr ⟨lw_p7, List.forall_mem_cons.mpr ⟨lw_p8, List.forall_mem_cons.mpr ⟨lw_p9, List.forall_mem_cons.mpr ⟨lw_p10, List.forall_mem_cons.mpr ⟨lw_p11, List.forall_mem_cons.mpr ⟨lw_p12, List.forall_mem_cons.mpr ⟨lw_p13, List.forall_mem_cons.mpr ⟨lw_p14, List.forall_mem_cons.mpr ⟨lw_p15, fun _ h => absurd h List.not_mem_nil⟩⟩⟩⟩⟩⟩⟩⟩⟩⟩⟩⟩⟩⟩⟩⟩
theorem lw_p16 : lw_okq (⟨"PaceBorder$Plan", "costBy", "(III)I"⟩, 7) := ⟨⟨by decide +kernel, by decide +kernel⟩, tq_1 (List.mem_of_getElem? (i := 153) rfl), tq_3 (List.mem_of_getElem? (i := 204) rfl), tq_3 (List.mem_of_getElem? (i := 205) rfl)⟩
theorem lw_p17 : lw_okq (⟨"PaceBorder", "layPlan", "(II)V"⟩, 16) := ⟨⟨by decide +kernel, by decide +kernel⟩, tq_1 (List.mem_of_getElem? (i := 16) rfl), tq_3 (List.mem_of_getElem? (i := 215) rfl), tq_3 (List.mem_of_getElem? (i := 216) rfl)⟩
theorem lw_p18 : lw_okq (⟨"PaceBorder$Plan", "passOn", "(II)V"⟩, 7) := ⟨⟨by decide +kernel, by decide +kernel⟩, tq_1 (List.mem_of_getElem? (i := 153) rfl), tq_4 (List.mem_of_getElem? (i := 6) rfl), tq_4 (List.mem_of_getElem? (i := 7) rfl)⟩
theorem lw_p19 : lw_okq (⟨"PaceBorder", "tellChance", "(JJ)I"⟩, 16) := ⟨⟨by decide +kernel, by decide +kernel⟩, tq_1 (List.mem_of_getElem? (i := 16) rfl), tq_4 (List.mem_of_getElem? (i := 11) rfl), tq_4 (List.mem_of_getElem? (i := 12) rfl)⟩
theorem lw_p20 : lw_okq (⟨"PaceBorder$Chance", "begin", "()V"⟩, 4) := ⟨⟨by decide +kernel, by decide +kernel⟩, tq_1 (List.mem_of_getElem? (i := 182) rfl), tq_4 (List.mem_of_getElem? (i := 56) rfl), tq_4 (List.mem_of_getElem? (i := 57) rfl)⟩
theorem lw_p21 : lw_okq (⟨"PaceBorder$Chance", "goOn", "(II)V"⟩, 4) := ⟨⟨by decide +kernel, by decide +kernel⟩, tq_1 (List.mem_of_getElem? (i := 182) rfl), tq_4 (List.mem_of_getElem? (i := 61) rfl), tq_4 (List.mem_of_getElem? (i := 62) rfl)⟩
theorem lw_p22 : lw_okq (⟨"PaceBorder$Chance", "pairsThatMove", "(III)I"⟩, 4) := ⟨⟨by decide +kernel, by decide +kernel⟩, tq_1 (List.mem_of_getElem? (i := 182) rfl), tq_4 (List.mem_of_getElem? (i := 65) rfl), tq_4 (List.mem_of_getElem? (i := 66) rfl)⟩
theorem lw_p23 : lw_okq (⟨"PaceBorder$Chance", "pairsAt", "(I)J"⟩, 4) := ⟨⟨by decide +kernel, by decide +kernel⟩, tq_1 (List.mem_of_getElem? (i := 182) rfl), tq_4 (List.mem_of_getElem? (i := 70) rfl), tq_4 (List.mem_of_getElem? (i := 71) rfl)⟩
theorem lw_p24 : lw_okq (⟨"PaceBorder$Chance", "bring", "(IJ)V"⟩, 4) := ⟨⟨by decide +kernel, by decide +kernel⟩, tq_1 (List.mem_of_getElem? (i := 182) rfl), tq_4 (List.mem_of_getElem? (i := 74) rfl), tq_4 (List.mem_of_getElem? (i := 75) rfl)⟩
theorem lw_p25 : lw_okq (⟨"PaceBorder$Chance", "duesNow", "(I)J"⟩, 4) := ⟨⟨by decide +kernel, by decide +kernel⟩, tq_1 (List.mem_of_getElem? (i := 182) rfl), tq_4 (List.mem_of_getElem? (i := 100) rfl), tq_4 (List.mem_of_getElem? (i := 101) rfl)⟩
theorem lw_p26 : lw_okq (⟨"PaceBorder$Turns", "note", "(IIII)V"⟩, 5) := ⟨⟨by decide +kernel, by decide +kernel⟩, tq_1 (List.mem_of_getElem? (i := 201) rfl), tq_4 (List.mem_of_getElem? (i := 116) rfl), tq_4 (List.mem_of_getElem? (i := 117) rfl)⟩
theorem lw_p27 : lw_okq (⟨"PaceBorder$Turns", "choose", "(II)V"⟩, 5) := ⟨⟨by decide +kernel, by decide +kernel⟩, tq_1 (List.mem_of_getElem? (i := 201) rfl), tq_4 (List.mem_of_getElem? (i := 123) rfl), tq_4 (List.mem_of_getElem? (i := 124) rfl)⟩
theorem lw_p28 : lw_okq (⟨"PaceBorder$Turns", "bestReply", "(III)I"⟩, 5) := ⟨⟨by decide +kernel, by decide +kernel⟩, tq_1 (List.mem_of_getElem? (i := 201) rfl), tq_4 (List.mem_of_getElem? (i := 127) rfl), tq_4 (List.mem_of_getElem? (i := 128) rfl)⟩
theorem lw_p29 : lw_okq (⟨"PaceBorder$Turns", "worthOfBoth", "(IIII)I"⟩, 5) := ⟨⟨by decide +kernel, by decide +kernel⟩, tq_1 (List.mem_of_getElem? (i := 201) rfl), tq_4 (List.mem_of_getElem? (i := 131) rfl), tq_4 (List.mem_of_getElem? (i := 132) rfl)⟩
theorem lw_p30 : lw_okq (⟨"PaceBorder$Past", "fits", "(LPaceBorder$Shelf;I)Z"⟩, 4) := ⟨⟨by decide +kernel, by decide +kernel⟩, tq_1 (List.mem_of_getElem? (i := 223) rfl), tq_4 (List.mem_of_getElem? (i := 182) rfl), tq_4 (List.mem_of_getElem? (i := 183) rfl)⟩
theorem lw_p31 : lw_okq (⟨"PaceBorder$Past", "trailAt", "(I)I"⟩, 4) := ⟨⟨by decide +kernel, by decide +kernel⟩, tq_1 (List.mem_of_getElem? (i := 223) rfl), tq_4 (List.mem_of_getElem? (i := 186) rfl), tq_4 (List.mem_of_getElem? (i := 187) rfl)⟩
noncomputable def lw_privs_2 : List (MethodName × Nat) := [(⟨"PaceBorder$Plan", "costBy", "(III)I"⟩, 7), (⟨"PaceBorder", "layPlan", "(II)V"⟩, 16), (⟨"PaceBorder$Plan", "passOn", "(II)V"⟩, 7), (⟨"PaceBorder", "tellChance", "(JJ)I"⟩, 16), (⟨"PaceBorder$Chance", "begin", "()V"⟩, 4), (⟨"PaceBorder$Chance", "goOn", "(II)V"⟩, 4), (⟨"PaceBorder$Chance", "pairsThatMove", "(III)I"⟩, 4), (⟨"PaceBorder$Chance", "pairsAt", "(I)J"⟩, 4), (⟨"PaceBorder$Chance", "bring", "(IJ)V"⟩, 4), (⟨"PaceBorder$Chance", "duesNow", "(I)J"⟩, 4), (⟨"PaceBorder$Turns", "note", "(IIII)V"⟩, 5), (⟨"PaceBorder$Turns", "choose", "(II)V"⟩, 5), (⟨"PaceBorder$Turns", "bestReply", "(III)I"⟩, 5), (⟨"PaceBorder$Turns", "worthOfBoth", "(IIII)I"⟩, 5), (⟨"PaceBorder$Past", "fits", "(LPaceBorder$Shelf;I)Z"⟩, 4), (⟨"PaceBorder$Past", "trailAt", "(I)I"⟩, 4)]
theorem lw_r2 : ∀ q ∈ lw_privs_2, lw_okq q := List.forall_mem_cons.mpr ⟨lw_p16, List.forall_mem_cons.mpr ⟨lw_p17, List.forall_mem_cons.mpr ⟨lw_p18, List.forall_mem_cons.mpr ⟨lw_p19, List.forall_mem_cons.mpr ⟨lw_p20, List.forall_mem_cons.mpr ⟨lw_p21, List.forall_mem_cons.mpr ⟨lw_p22, List.forall_mem_cons.mpr ⟨lw_p23, List.forall_mem_cons.mpr ⟨lw_p24, List.forall_mem_cons.mpr ⟨lw_p25, List.forall_mem_cons.mpr ⟨lw_p26, List.forall_mem_cons.mpr ⟨lw_p27, List.forall_mem_cons.mpr ⟨lw_p28, List.forall_mem_cons.mpr ⟨lw_p29, List.forall_mem_cons.mpr ⟨lw_p30, List.forall_mem_cons.mpr ⟨lw_p31, fun _ h => absurd h List.not_mem_nil⟩⟩⟩⟩⟩⟩⟩⟩⟩⟩⟩⟩⟩⟩⟩⟩
theorem lw_p32 : lw_okq (⟨"PaceBorder", "keptLands", "()I"⟩, 16) := ⟨⟨by decide +kernel, by decide +kernel⟩, tq_1 (List.mem_of_getElem? (i := 16) rfl), tq_4 (List.mem_of_getElem? (i := 239) rfl), tq_5 (List.mem_of_getElem? (i := 0) rfl)⟩
theorem lw_p33 : lw_okq (⟨"PaceBorderModel", "find", "(I)I"⟩, 31) := ⟨⟨by decide +kernel, by decide +kernel⟩, tq_5 (List.mem_of_getElem? (i := 23) rfl), tq_5 (List.mem_of_getElem? (i := 134) rfl), tq_5 (List.mem_of_getElem? (i := 135) rfl)⟩
theorem lw_p34 : lw_okq (⟨"PaceBorderModel", "makeRow", "(II)V"⟩, 31) := ⟨⟨by decide +kernel, by decide +kernel⟩, tq_5 (List.mem_of_getElem? (i := 23) rfl), tq_5 (List.mem_of_getElem? (i := 138) rfl), tq_5 (List.mem_of_getElem? (i := 139) rfl)⟩
theorem lw_p35 : lw_okq (⟨"PaceBorderModel", "refused", "(II)I"⟩, 31) := ⟨⟨by decide +kernel, by decide +kernel⟩, tq_5 (List.mem_of_getElem? (i := 23) rfl), tq_5 (List.mem_of_getElem? (i := 146) rfl), tq_5 (List.mem_of_getElem? (i := 147) rfl)⟩
theorem lw_p36 : lw_okq (⟨"PaceBorderModel", "tell", "(I)I"⟩, 31) := ⟨⟨by decide +kernel, by decide +kernel⟩, tq_5 (List.mem_of_getElem? (i := 23) rfl), tq_5 (List.mem_of_getElem? (i := 150) rfl), tq_5 (List.mem_of_getElem? (i := 151) rfl)⟩
theorem lw_p37 : lw_okq (⟨"PaceBorderModel", "isSpan", "(III)Z"⟩, 31) := ⟨⟨by decide +kernel, by decide +kernel⟩, tq_5 (List.mem_of_getElem? (i := 23) rfl), tq_5 (List.mem_of_getElem? (i := 166) rfl), tq_5 (List.mem_of_getElem? (i := 167) rfl)⟩
theorem lw_p38 : lw_okq (⟨"PaceBorderModel", "faultOf", "(I)I"⟩, 31) := ⟨⟨by decide +kernel, by decide +kernel⟩, tq_5 (List.mem_of_getElem? (i := 23) rfl), tq_5 (List.mem_of_getElem? (i := 190) rfl), tq_5 (List.mem_of_getElem? (i := 191) rfl)⟩
theorem lw_p39 : lw_okq (⟨"PaceBorderModel", "skip", "()V"⟩, 31) := ⟨⟨by decide +kernel, by decide +kernel⟩, tq_5 (List.mem_of_getElem? (i := 23) rfl), tq_5 (List.mem_of_getElem? (i := 194) rfl), tq_5 (List.mem_of_getElem? (i := 195) rfl)⟩
theorem lw_p40 : lw_okq (⟨"PaceBorderModel", "here", "()I"⟩, 31) := ⟨⟨by decide +kernel, by decide +kernel⟩, tq_5 (List.mem_of_getElem? (i := 23) rfl), tq_5 (List.mem_of_getElem? (i := 198) rfl), tq_5 (List.mem_of_getElem? (i := 199) rfl)⟩
theorem lw_p41 : lw_okq (⟨"PaceBorderModel", "readsStrip", "()Z"⟩, 31) := ⟨⟨by decide +kernel, by decide +kernel⟩, tq_5 (List.mem_of_getElem? (i := 23) rfl), tq_5 (List.mem_of_getElem? (i := 202) rfl), tq_5 (List.mem_of_getElem? (i := 203) rfl)⟩
theorem lw_p42 : lw_okq (⟨"PaceBorderModel", "kindHere", "()I"⟩, 31) := ⟨⟨by decide +kernel, by decide +kernel⟩, tq_5 (List.mem_of_getElem? (i := 23) rfl), tq_5 (List.mem_of_getElem? (i := 206) rfl), tq_5 (List.mem_of_getElem? (i := 207) rfl)⟩
theorem lw_p43 : lw_okq (⟨"PaceBorderModel", "figure", "(II)I"⟩, 31) := ⟨⟨by decide +kernel, by decide +kernel⟩, tq_5 (List.mem_of_getElem? (i := 23) rfl), tq_5 (List.mem_of_getElem? (i := 210) rfl), tq_5 (List.mem_of_getElem? (i := 211) rfl)⟩
theorem lw_p44 : lw_okq (⟨"PaceBorderModel", "readsEnd", "()Z"⟩, 31) := ⟨⟨by decide +kernel, by decide +kernel⟩, tq_5 (List.mem_of_getElem? (i := 23) rfl), tq_5 (List.mem_of_getElem? (i := 214) rfl), tq_5 (List.mem_of_getElem? (i := 215) rfl)⟩
theorem lw_p45 : lw_okq (⟨"PaceBorderModel", "isStrip", "(I)Z"⟩, 31) := ⟨⟨by decide +kernel, by decide +kernel⟩, tq_5 (List.mem_of_getElem? (i := 23) rfl), tq_5 (List.mem_of_getElem? (i := 226) rfl), tq_5 (List.mem_of_getElem? (i := 227) rfl)⟩
theorem lw_p46 : lw_okq (⟨"PaceBorderModel", "toldOf", "(II)I"⟩, 31) := ⟨⟨by decide +kernel, by decide +kernel⟩, tq_5 (List.mem_of_getElem? (i := 23) rfl), tq_5 (List.mem_of_getElem? (i := 230) rfl), tq_5 (List.mem_of_getElem? (i := 231) rfl)⟩
theorem lw_p47 : lw_okq (⟨"PaceBorderModel", "isOf", "(II)Z"⟩, 31) := ⟨⟨by decide +kernel, by decide +kernel⟩, tq_5 (List.mem_of_getElem? (i := 23) rfl), tq_5 (List.mem_of_getElem? (i := 238) rfl), tq_5 (List.mem_of_getElem? (i := 239) rfl)⟩
noncomputable def lw_privs_3 : List (MethodName × Nat) := [(⟨"PaceBorder", "keptLands", "()I"⟩, 16), (⟨"PaceBorderModel", "find", "(I)I"⟩, 31), (⟨"PaceBorderModel", "makeRow", "(II)V"⟩, 31), (⟨"PaceBorderModel", "refused", "(II)I"⟩, 31), (⟨"PaceBorderModel", "tell", "(I)I"⟩, 31), (⟨"PaceBorderModel", "isSpan", "(III)Z"⟩, 31), (⟨"PaceBorderModel", "faultOf", "(I)I"⟩, 31), (⟨"PaceBorderModel", "skip", "()V"⟩, 31), (⟨"PaceBorderModel", "here", "()I"⟩, 31), (⟨"PaceBorderModel", "readsStrip", "()Z"⟩, 31), (⟨"PaceBorderModel", "kindHere", "()I"⟩, 31), (⟨"PaceBorderModel", "figure", "(II)I"⟩, 31), (⟨"PaceBorderModel", "readsEnd", "()Z"⟩, 31), (⟨"PaceBorderModel", "isStrip", "(I)Z"⟩, 31), (⟨"PaceBorderModel", "toldOf", "(II)I"⟩, 31), (⟨"PaceBorderModel", "isOf", "(II)Z"⟩, 31)]
theorem lw_r3 : ∀ q ∈ lw_privs_3, lw_okq q := List.forall_mem_cons.mpr ⟨lw_p32, List.forall_mem_cons.mpr ⟨lw_p33, List.forall_mem_cons.mpr ⟨lw_p34, List.forall_mem_cons.mpr ⟨lw_p35, List.forall_mem_cons.mpr ⟨lw_p36, List.forall_mem_cons.mpr ⟨lw_p37, List.forall_mem_cons.mpr ⟨lw_p38, List.forall_mem_cons.mpr ⟨lw_p39, List.forall_mem_cons.mpr ⟨lw_p40, List.forall_mem_cons.mpr ⟨lw_p41, List.forall_mem_cons.mpr ⟨lw_p42, List.forall_mem_cons.mpr ⟨lw_p43, List.forall_mem_cons.mpr ⟨lw_p44, List.forall_mem_cons.mpr ⟨lw_p45, List.forall_mem_cons.mpr ⟨lw_p46, List.forall_mem_cons.mpr ⟨lw_p47, fun _ h => absurd h List.not_mem_nil⟩⟩⟩⟩⟩⟩⟩⟩⟩⟩⟩⟩⟩⟩⟩⟩
theorem lw_p48 : lw_okq (⟨"PaceBorderModel", "paysNow", "(I)I"⟩, 31) := ⟨⟨by decide +kernel, by decide +kernel⟩, tq_5 (List.mem_of_getElem? (i := 23) rfl), tq_6 (List.mem_of_getElem? (i := 5) rfl), tq_6 (List.mem_of_getElem? (i := 6) rfl)⟩
theorem lw_p49 : lw_okq (⟨"PaceBorderModel", "paysTo", "(IIII)I"⟩, 31) := ⟨⟨by decide +kernel, by decide +kernel⟩, tq_5 (List.mem_of_getElem? (i := 23) rfl), tq_6 (List.mem_of_getElem? (i := 9) rfl), tq_6 (List.mem_of_getElem? (i := 10) rfl)⟩
theorem lw_p50 : lw_okq (⟨"PaceBorderModel", "goOn", "(III)V"⟩, 31) := ⟨⟨by decide +kernel, by decide +kernel⟩, tq_5 (List.mem_of_getElem? (i := 23) rfl), tq_6 (List.mem_of_getElem? (i := 25) rfl), tq_6 (List.mem_of_getElem? (i := 26) rfl)⟩
theorem lw_p51 : lw_okq (⟨"PaceBorderModel", "behind", "(IIII)I"⟩, 31) := ⟨⟨by decide +kernel, by decide +kernel⟩, tq_5 (List.mem_of_getElem? (i := 23) rfl), tq_6 (List.mem_of_getElem? (i := 29) rfl), tq_6 (List.mem_of_getElem? (i := 30) rfl)⟩
theorem lw_p52 : lw_okq (⟨"PaceBorderModel", "layAhead", "(I)V"⟩, 31) := ⟨⟨by decide +kernel, by decide +kernel⟩, tq_5 (List.mem_of_getElem? (i := 23) rfl), tq_6 (List.mem_of_getElem? (i := 43) rfl), tq_6 (List.mem_of_getElem? (i := 44) rfl)⟩
theorem lw_p53 : lw_okq (⟨"PaceBorderModel", "copyLand", "(II)V"⟩, 31) := ⟨⟨by decide +kernel, by decide +kernel⟩, tq_5 (List.mem_of_getElem? (i := 23) rfl), tq_6 (List.mem_of_getElem? (i := 47) rfl), tq_6 (List.mem_of_getElem? (i := 48) rfl)⟩
theorem lw_p54 : lw_okq (⟨"PaceBorderModel", "canBe", "(III)Z"⟩, 31) := ⟨⟨by decide +kernel, by decide +kernel⟩, tq_5 (List.mem_of_getElem? (i := 23) rfl), tq_6 (List.mem_of_getElem? (i := 76) rfl), tq_6 (List.mem_of_getElem? (i := 77) rfl)⟩
theorem lw_p55 : lw_okq (⟨"PaceBorderModel", "rudeness", "(III)I"⟩, 31) := ⟨⟨by decide +kernel, by decide +kernel⟩, tq_5 (List.mem_of_getElem? (i := 23) rfl), tq_6 (List.mem_of_getElem? (i := 80) rfl), tq_6 (List.mem_of_getElem? (i := 81) rfl)⟩
theorem lw_p56 : lw_okq (⟨"PaceBorderModel", "areMoves", "(I)Z"⟩, 31) := ⟨⟨by decide +kernel, by decide +kernel⟩, tq_5 (List.mem_of_getElem? (i := 23) rfl), tq_6 (List.mem_of_getElem? (i := 88) rfl), tq_6 (List.mem_of_getElem? (i := 89) rfl)⟩
theorem lw_p57 : lw_okq (⟨"PaceBorderModel", "goAlong", "(I)I"⟩, 31) := ⟨⟨by decide +kernel, by decide +kernel⟩, tq_5 (List.mem_of_getElem? (i := 23) rfl), tq_6 (List.mem_of_getElem? (i := 93) rfl), tq_6 (List.mem_of_getElem? (i := 94) rfl)⟩
theorem lw_p58 : lw_okq (⟨"PaceBorderModel", "paysOn", "(III)I"⟩, 31) := ⟨⟨by decide +kernel, by decide +kernel⟩, tq_5 (List.mem_of_getElem? (i := 23) rfl), tq_6 (List.mem_of_getElem? (i := 105) rfl), tq_6 (List.mem_of_getElem? (i := 106) rfl)⟩
theorem lw_p59 : lw_okq (⟨"PaceBorderModel", "isPlace", "(I)Z"⟩, 31) := ⟨⟨by decide +kernel, by decide +kernel⟩, tq_5 (List.mem_of_getElem? (i := 23) rfl), tq_6 (List.mem_of_getElem? (i := 113) rfl), tq_6 (List.mem_of_getElem? (i := 114) rfl)⟩
theorem lw_p60 : lw_okq (⟨"PaceBorderModel", "reachIn", "(I)I"⟩, 31) := ⟨⟨by decide +kernel, by decide +kernel⟩, tq_5 (List.mem_of_getElem? (i := 23) rfl), tq_6 (List.mem_of_getElem? (i := 117) rfl), tq_6 (List.mem_of_getElem? (i := 118) rfl)⟩
theorem lw_p61 : lw_okq (⟨"PaceBorderModel", "layWays", "(II)V"⟩, 31) := ⟨⟨by decide +kernel, by decide +kernel⟩, tq_5 (List.mem_of_getElem? (i := 23) rfl), tq_6 (List.mem_of_getElem? (i := 124) rfl), tq_6 (List.mem_of_getElem? (i := 125) rfl)⟩
theorem lw_p62 : lw_okq (⟨"PaceBorderModel", "firstRow", "(II)V"⟩, 31) := ⟨⟨by decide +kernel, by decide +kernel⟩, tq_5 (List.mem_of_getElem? (i := 23) rfl), tq_6 (List.mem_of_getElem? (i := 128) rfl), tq_6 (List.mem_of_getElem? (i := 129) rfl)⟩
theorem lw_p63 : lw_okq (⟨"PaceBorderModel", "layValues", "(II)V"⟩, 31) := ⟨⟨by decide +kernel, by decide +kernel⟩, tq_5 (List.mem_of_getElem? (i := 23) rfl), tq_6 (List.mem_of_getElem? (i := 137) rfl), tq_6 (List.mem_of_getElem? (i := 138) rfl)⟩
noncomputable def lw_privs_4 : List (MethodName × Nat) := [(⟨"PaceBorderModel", "paysNow", "(I)I"⟩, 31), (⟨"PaceBorderModel", "paysTo", "(IIII)I"⟩, 31), (⟨"PaceBorderModel", "goOn", "(III)V"⟩, 31), (⟨"PaceBorderModel", "behind", "(IIII)I"⟩, 31), (⟨"PaceBorderModel", "layAhead", "(I)V"⟩, 31), (⟨"PaceBorderModel", "copyLand", "(II)V"⟩, 31), (⟨"PaceBorderModel", "canBe", "(III)Z"⟩, 31), (⟨"PaceBorderModel", "rudeness", "(III)I"⟩, 31), (⟨"PaceBorderModel", "areMoves", "(I)Z"⟩, 31), (⟨"PaceBorderModel", "goAlong", "(I)I"⟩, 31), (⟨"PaceBorderModel", "paysOn", "(III)I"⟩, 31), (⟨"PaceBorderModel", "isPlace", "(I)Z"⟩, 31), (⟨"PaceBorderModel", "reachIn", "(I)I"⟩, 31), (⟨"PaceBorderModel", "layWays", "(II)V"⟩, 31), (⟨"PaceBorderModel", "firstRow", "(II)V"⟩, 31), (⟨"PaceBorderModel", "layValues", "(II)V"⟩, 31)]
theorem lw_r4 : ∀ q ∈ lw_privs_4, lw_okq q := List.forall_mem_cons.mpr ⟨lw_p48, List.forall_mem_cons.mpr ⟨lw_p49, List.forall_mem_cons.mpr ⟨lw_p50, List.forall_mem_cons.mpr ⟨lw_p51, List.forall_mem_cons.mpr ⟨lw_p52, List.forall_mem_cons.mpr ⟨lw_p53, List.forall_mem_cons.mpr ⟨lw_p54, List.forall_mem_cons.mpr ⟨lw_p55, List.forall_mem_cons.mpr ⟨lw_p56, List.forall_mem_cons.mpr ⟨lw_p57, List.forall_mem_cons.mpr ⟨lw_p58, List.forall_mem_cons.mpr ⟨lw_p59, List.forall_mem_cons.mpr ⟨lw_p60, List.forall_mem_cons.mpr ⟨lw_p61, List.forall_mem_cons.mpr ⟨lw_p62, List.forall_mem_cons.mpr ⟨lw_p63, fun _ h => absurd h List.not_mem_nil⟩⟩⟩⟩⟩⟩⟩⟩⟩⟩⟩⟩⟩⟩⟩⟩
theorem lw_p64 : lw_okq (⟨"PaceBorderModel", "valueBy", "(III)I"⟩, 31) := ⟨⟨by decide +kernel, by decide +kernel⟩, tq_5 (List.mem_of_getElem? (i := 23) rfl), tq_6 (List.mem_of_getElem? (i := 142) rfl), tq_6 (List.mem_of_getElem? (i := 143) rfl)⟩
theorem lw_p65 : lw_okq (⟨"PaceBorderModel", "costOf", "(III)I"⟩, 31) := ⟨⟨by decide +kernel, by decide +kernel⟩, tq_5 (List.mem_of_getElem? (i := 23) rfl), tq_6 (List.mem_of_getElem? (i := 146) rfl), tq_6 (List.mem_of_getElem? (i := 147) rfl)⟩
theorem lw_p66 : lw_okq (⟨"PaceBorderModel", "toRow", "(II)V"⟩, 31) := ⟨⟨by decide +kernel, by decide +kernel⟩, tq_5 (List.mem_of_getElem? (i := 23) rfl), tq_6 (List.mem_of_getElem? (i := 150) rfl), tq_6 (List.mem_of_getElem? (i := 151) rfl)⟩
theorem lw_p67 : lw_okq (⟨"PaceBorderModel", "layChances", "(III)V"⟩, 31) := ⟨⟨by decide +kernel, by decide +kernel⟩, tq_5 (List.mem_of_getElem? (i := 23) rfl), tq_6 (List.mem_of_getElem? (i := 179) rfl), tq_6 (List.mem_of_getElem? (i := 180) rfl)⟩
theorem lw_p68 : lw_okq (⟨"PaceBorderModel", "tellParts", "(JJ)I"⟩, 31) := ⟨⟨by decide +kernel, by decide +kernel⟩, tq_5 (List.mem_of_getElem? (i := 23) rfl), tq_6 (List.mem_of_getElem? (i := 187) rfl), tq_6 (List.mem_of_getElem? (i := 188) rfl)⟩
theorem lw_p69 : lw_okq (⟨"PaceBorderModel", "layGames", "(II)V"⟩, 31) := ⟨⟨by decide +kernel, by decide +kernel⟩, tq_5 (List.mem_of_getElem? (i := 23) rfl), tq_6 (List.mem_of_getElem? (i := 207) rfl), tq_6 (List.mem_of_getElem? (i := 208) rfl)⟩
theorem lw_p70 : lw_okq (⟨"PaceBorderModel", "firstTo", "(II)I"⟩, 31) := ⟨⟨by decide +kernel, by decide +kernel⟩, tq_5 (List.mem_of_getElem? (i := 23) rfl), tq_6 (List.mem_of_getElem? (i := 211) rfl), tq_6 (List.mem_of_getElem? (i := 212) rfl)⟩
theorem lw_p71 : lw_okq (⟨"PaceBorderModel", "valueOf", "(III)I"⟩, 31) := ⟨⟨by decide +kernel, by decide +kernel⟩, tq_5 (List.mem_of_getElem? (i := 23) rfl), tq_6 (List.mem_of_getElem? (i := 215) rfl), tq_6 (List.mem_of_getElem? (i := 216) rfl)⟩
theorem lw_p72 : lw_okq (⟨"PaceBorderModel", "answerTo", "(III)I"⟩, 31) := ⟨⟨by decide +kernel, by decide +kernel⟩, tq_5 (List.mem_of_getElem? (i := 23) rfl), tq_6 (List.mem_of_getElem? (i := 219) rfl), tq_6 (List.mem_of_getElem? (i := 220) rfl)⟩
theorem lw_p73 : lw_okq (⟨"PaceBorderModel", "gameBy", "(IIII)I"⟩, 31) := ⟨⟨by decide +kernel, by decide +kernel⟩, tq_5 (List.mem_of_getElem? (i := 23) rfl), tq_6 (List.mem_of_getElem? (i := 223) rfl), tq_6 (List.mem_of_getElem? (i := 224) rfl)⟩
theorem lw_p74 : lw_okq (⟨"PaceBorderModel", "areBooks", "(I)Z"⟩, 31) := ⟨⟨by decide +kernel, by decide +kernel⟩, tq_5 (List.mem_of_getElem? (i := 23) rfl), tq_7 (List.mem_of_getElem? (i := 4) rfl), tq_7 (List.mem_of_getElem? (i := 5) rfl)⟩
theorem lw_p75 : lw_okq (⟨"PaceBorderModel", "broughtTo", "(II)I"⟩, 31) := ⟨⟨by decide +kernel, by decide +kernel⟩, tq_5 (List.mem_of_getElem? (i := 23) rfl), tq_7 (List.mem_of_getElem? (i := 8) rfl), tq_7 (List.mem_of_getElem? (i := 9) rfl)⟩
theorem lw_p76 : lw_okq (⟨"PaceBorderModel", "countOf", "(I)I"⟩, 31) := ⟨⟨by decide +kernel, by decide +kernel⟩, tq_5 (List.mem_of_getElem? (i := 23) rfl), tq_7 (List.mem_of_getElem? (i := 40) rfl), tq_7 (List.mem_of_getElem? (i := 41) rfl)⟩
theorem lw_p77 : lw_okq (⟨"PaceBorderModel", "kindMany", "(I)I"⟩, 31) := ⟨⟨by decide +kernel, by decide +kernel⟩, tq_5 (List.mem_of_getElem? (i := 23) rfl), tq_7 (List.mem_of_getElem? (i := 44) rfl), tq_7 (List.mem_of_getElem? (i := 45) rfl)⟩
theorem lw_p78 : lw_okq (⟨"PaceBorderModel", "thereOf", "(I)I"⟩, 31) := ⟨⟨by decide +kernel, by decide +kernel⟩, tq_5 (List.mem_of_getElem? (i := 23) rfl), tq_7 (List.mem_of_getElem? (i := 48) rfl), tq_7 (List.mem_of_getElem? (i := 49) rfl)⟩
noncomputable def lw_privs_5 : List (MethodName × Nat) := [(⟨"PaceBorderModel", "valueBy", "(III)I"⟩, 31), (⟨"PaceBorderModel", "costOf", "(III)I"⟩, 31), (⟨"PaceBorderModel", "toRow", "(II)V"⟩, 31), (⟨"PaceBorderModel", "layChances", "(III)V"⟩, 31), (⟨"PaceBorderModel", "tellParts", "(JJ)I"⟩, 31), (⟨"PaceBorderModel", "layGames", "(II)V"⟩, 31), (⟨"PaceBorderModel", "firstTo", "(II)I"⟩, 31), (⟨"PaceBorderModel", "valueOf", "(III)I"⟩, 31), (⟨"PaceBorderModel", "answerTo", "(III)I"⟩, 31), (⟨"PaceBorderModel", "gameBy", "(IIII)I"⟩, 31), (⟨"PaceBorderModel", "areBooks", "(I)Z"⟩, 31), (⟨"PaceBorderModel", "broughtTo", "(II)I"⟩, 31), (⟨"PaceBorderModel", "countOf", "(I)I"⟩, 31), (⟨"PaceBorderModel", "kindMany", "(I)I"⟩, 31), (⟨"PaceBorderModel", "thereOf", "(I)I"⟩, 31)]
theorem lw_r5 : ∀ q ∈ lw_privs_5, lw_okq q := List.forall_mem_cons.mpr ⟨lw_p64, List.forall_mem_cons.mpr ⟨lw_p65, List.forall_mem_cons.mpr ⟨lw_p66, List.forall_mem_cons.mpr ⟨lw_p67, List.forall_mem_cons.mpr ⟨lw_p68, List.forall_mem_cons.mpr ⟨lw_p69, List.forall_mem_cons.mpr ⟨lw_p70, List.forall_mem_cons.mpr ⟨lw_p71, List.forall_mem_cons.mpr ⟨lw_p72, List.forall_mem_cons.mpr ⟨lw_p73, List.forall_mem_cons.mpr ⟨lw_p74, List.forall_mem_cons.mpr ⟨lw_p75, List.forall_mem_cons.mpr ⟨lw_p76, List.forall_mem_cons.mpr ⟨lw_p77, List.forall_mem_cons.mpr ⟨lw_p78, fun _ h => absurd h List.not_mem_nil⟩⟩⟩⟩⟩⟩⟩⟩⟩⟩⟩⟩⟩⟩⟩
noncomputable def lw_privs : List (MethodName × Nat) := lw_privs_1 ++ (lw_privs_2 ++ (lw_privs_3 ++ (lw_privs_4 ++ (lw_privs_5))))
noncomputable def lw_tbl : List Cond := k2_sels lw_privs ++ tables_1
theorem lw_privs_ok : ∀ q ∈ lw_privs, lw_okq q := by
  show ∀ q ∈ lw_privs_1 ++ (lw_privs_2 ++ (lw_privs_3 ++ (lw_privs_4 ++ (lw_privs_5)))), lw_okq q
  exact List.forall_mem_append.mpr ⟨lw_r1, List.forall_mem_append.mpr ⟨lw_r2, List.forall_mem_append.mpr ⟨lw_r3, List.forall_mem_append.mpr ⟨lw_r4, lw_r5⟩⟩⟩⟩
noncomputable def RX0 : String := "PaceBorder$Chance"
noncomputable def TX0 : u_T := fun k => match k with
  | 0 => ("PaceBorder$Chance", "ground", "LPaceBorder$Ground;", true)
  | 1 => ("PaceBorder$Chance", "days", "LPaceBorder$Days;", true)
  | 2 => ("PaceBorder$Chance", "pairs", "[J", true)
  | _ => ("PaceBorder$Chance", "pairsNext", "[J", true)
noncomputable def tyX0 : Nat → FieldType := fun k => match k with
  | 0 => .object "PaceBorder$Ground"
  | 1 => .object "PaceBorder$Days"
  | 2 => .array .long
  | _ => .array .long
noncomputable abbrev wsX00 : List Cond := u_ws RX0 TX0 4
theorem nmX0 : ∀ a, a < 4 → ∀ b, b < 4 → a ≠ b → (TX0 a).2.1 ≠ (TX0 b).2.1 := by decide +kernel
theorem tyX0_ok : ∀ k, k < 4 → parseFieldDescriptor (TX0 k).2.2.1 = some (tyX0 k) := by decide +kernel
noncomputable abbrev cX0_init : ByteArray := prog_2_method_1_code
noncomputable def yX0_init : MethodName := ⟨RX0, "<init>", "(LPaceBorder$Ground;LPaceBorder$Days;)V"⟩
noncomputable abbrev cX0_pairsIn : ByteArray := prog_2_method_2_code
noncomputable def yX0_pairsIn : MethodName := ⟨RX0, "pairsIn", "(I)J"⟩
noncomputable abbrev cX0_pairsEndingAt : ByteArray := prog_2_method_3_code
noncomputable def yX0_pairsEndingAt : MethodName := ⟨RX0, "pairsEndingAt", "(II)J"⟩
noncomputable abbrev cX0_pairsMeeting : ByteArray := prog_2_method_4_code
noncomputable def yX0_pairsMeeting : MethodName := ⟨RX0, "pairsMeeting", "(II)J"⟩
noncomputable abbrev cX0_duesOf : ByteArray := prog_2_method_5_code
noncomputable def yX0_duesOf : MethodName := ⟨RX0, "duesOf", "(II)J"⟩
noncomputable abbrev cX0_duesNow : ByteArray := prog_2_method_6_code
noncomputable def yX0_duesNow : MethodName := ⟨RX0, "duesNow", "(I)J"⟩
noncomputable abbrev cX0_begin : ByteArray := prog_2_method_7_code
noncomputable def yX0_begin : MethodName := ⟨RX0, "begin", "()V"⟩
noncomputable abbrev cX0_pairsAt : ByteArray := prog_2_method_8_code
noncomputable def yX0_pairsAt : MethodName := ⟨RX0, "pairsAt", "(I)J"⟩
noncomputable abbrev cX0_goOn : ByteArray := prog_2_method_9_code
noncomputable def yX0_goOn : MethodName := ⟨RX0, "goOn", "(II)V"⟩
noncomputable abbrev cX0_bring : ByteArray := prog_2_method_10_code
noncomputable def yX0_bring : MethodName := ⟨RX0, "bring", "(IJ)V"⟩
noncomputable abbrev cX0_pairsThatMove : ByteArray := prog_2_method_11_code
noncomputable def yX0_pairsThatMove : MethodName := ⟨RX0, "pairsThatMove", "(III)I"⟩
noncomputable def RX1 : String := "PaceBorder$Days"
noncomputable def TX1 : u_T := fun k => match k with
  | 0 => ("PaceBorder$Days", "done", "I", false)
  | 1 => ("PaceBorder$Days", "border", "I", false)
  | 2 => ("PaceBorder$Days", "rate0", "I", false)
  | 3 => ("PaceBorder$Days", "rate1", "I", false)
  | 4 => ("PaceBorder$Days", "saidBy0", "[I", true)
  | 5 => ("PaceBorder$Days", "saidBy1", "[I", true)
  | 6 => ("PaceBorder$Days", "ahead", "[I", true)
  | _ => ("PaceBorder$Days", "paid", "[I", true)
noncomputable def tyX1 : Nat → FieldType := fun k => match k with
  | 0 => .int
  | 1 => .int
  | 2 => .int
  | 3 => .int
  | 4 => .array .int
  | 5 => .array .int
  | 6 => .array .int
  | _ => .array .int
noncomputable abbrev wsX10 : List Cond := u_ws RX1 TX1 8
theorem nmX1 : ∀ a, a < 8 → ∀ b, b < 8 → a ≠ b → (TX1 a).2.1 ≠ (TX1 b).2.1 := by decide +kernel
theorem tyX1_ok : ∀ k, k < 8 → parseFieldDescriptor (TX1 k).2.2.1 = some (tyX1 k) := by decide +kernel
noncomputable abbrev cX1_init : ByteArray := prog_3_method_1_code
noncomputable def yX1_init : MethodName := ⟨RX1, "<init>", "()V"⟩
noncomputable abbrev cX1_isTaxDay : ByteArray := prog_3_method_2_code
noncomputable def yX1_isTaxDay : MethodName := ⟨RX1, "isTaxDay", "(I)Z"⟩
noncomputable abbrev cX1_begin : ByteArray := prog_3_method_3_code
noncomputable def yX1_begin : MethodName := ⟨RX1, "begin", "(III)V"⟩
noncomputable abbrev cX1_carry : ByteArray := prog_3_method_4_code
noncomputable def yX1_carry : MethodName := ⟨RX1, "carry", "(LPaceBorder$Days;LPaceBorder$Days;)V"⟩
noncomputable abbrev cX1_rateOf : ByteArray := prog_3_method_5_code
noncomputable def yX1_rateOf : MethodName := ⟨RX1, "rateOf", "(I)I"⟩
noncomputable abbrev cX1_setRate : ByteArray := prog_3_method_6_code
noncomputable def yX1_setRate : MethodName := ⟨RX1, "setRate", "(II)V"⟩
noncomputable abbrev cX1_pass : ByteArray := prog_3_method_7_code
noncomputable def yX1_pass : MethodName := ⟨RX1, "pass", "(LPaceBorder$Ground;II)V"⟩
noncomputable abbrev cX1_collect : ByteArray := prog_3_method_8_code
noncomputable def yX1_collect : MethodName := ⟨RX1, "collect", "(LPaceBorder$Ground;)V"⟩
noncomputable abbrev cX1_slotOf : ByteArray := prog_3_method_9_code
noncomputable def yX1_slotOf : MethodName := ⟨RX1, "slotOf", "(III)I"⟩
noncomputable abbrev cX1_goBackTo : ByteArray := prog_3_method_10_code
noncomputable def yX1_goBackTo : MethodName := ⟨RX1, "goBackTo", "(I)V"⟩
noncomputable abbrev cX1_borderAhead : ByteArray := prog_3_method_11_code
noncomputable def yX1_borderAhead : MethodName := ⟨RX1, "borderAhead", "(I)I"⟩
noncomputable abbrev cX1_paidBy : ByteArray := prog_3_method_12_code
noncomputable def yX1_paidBy : MethodName := ⟨RX1, "paidBy", "(II)I"⟩
noncomputable abbrev cX1_changesOf : ByteArray := prog_3_method_13_code
noncomputable def yX1_changesOf : MethodName := ⟨RX1, "changesOf", "(I)I"⟩
noncomputable abbrev cX1_dueOfBoth : ByteArray := prog_3_method_14_code
noncomputable def yX1_dueOfBoth : MethodName := ⟨RX1, "dueOfBoth", "(LPaceBorder$Ground;II)I"⟩
noncomputable abbrev cX1_dueToCrown : ByteArray := prog_3_method_15_code
noncomputable def yX1_dueToCrown : MethodName := ⟨RX1, "dueToCrown", "(LPaceBorder$Ground;II)I"⟩
noncomputable abbrev cX1_retrace : ByteArray := prog_3_method_16_code
noncomputable def yX1_retrace : MethodName := ⟨RX1, "retrace", "(LPaceBorder$Ground;I[I)V"⟩
noncomputable def RX2 : String := "PaceBorder$Ground"
noncomputable def TX2 : u_T := fun k => match k with
  | 0 => ("PaceBorder$Ground", "strips", "I", false)
  | 1 => ("PaceBorder$Ground", "kindNumbers", "[I", true)
  | _ => ("PaceBorder$Ground", "dues", "[I", true)
noncomputable def tyX2 : Nat → FieldType := fun k => match k with
  | 0 => .int
  | 1 => .array .int
  | _ => .array .int
noncomputable abbrev wsX20 : List Cond := u_ws RX2 TX2 3
theorem nmX2 : ∀ a, a < 3 → ∀ b, b < 3 → a ≠ b → (TX2 a).2.1 ≠ (TX2 b).2.1 := by decide +kernel
theorem tyX2_ok : ∀ k, k < 3 → parseFieldDescriptor (TX2 k).2.2.1 = some (tyX2 k) := by decide +kernel
noncomputable abbrev cX2_init : ByteArray := prog_4_method_1_code
noncomputable def yX2_init : MethodName := ⟨RX2, "<init>", "()V"⟩
noncomputable abbrev cX2_clear : ByteArray := prog_4_method_2_code
noncomputable def yX2_clear : MethodName := ⟨RX2, "clear", "()V"⟩
noncomputable abbrev cX2_hasRoom : ByteArray := prog_4_method_3_code
noncomputable def yX2_hasRoom : MethodName := ⟨RX2, "hasRoom", "()Z"⟩
noncomputable abbrev cX2_add : ByteArray := prog_4_method_4_code
noncomputable def yX2_add : MethodName := ⟨RX2, "add", "(II)V"⟩
noncomputable abbrev cX2_takeFrom : ByteArray := prog_4_method_5_code
noncomputable def yX2_takeFrom : MethodName := ⟨RX2, "takeFrom", "(LPaceBorder$Ground;)V"⟩
noncomputable abbrev cX2_setKind : ByteArray := prog_4_method_6_code
noncomputable def yX2_setKind : MethodName := ⟨RX2, "setKind", "(II)V"⟩
noncomputable abbrev cX2_has : ByteArray := prog_4_method_7_code
noncomputable def yX2_has : MethodName := ⟨RX2, "has", "(I)Z"⟩
noncomputable abbrev cX2_isPlace : ByteArray := prog_4_method_8_code
noncomputable def yX2_isPlace : MethodName := ⟨RX2, "isPlace", "(I)Z"⟩
noncomputable abbrev cX2_kindOf : ByteArray := prog_4_method_9_code
noncomputable def yX2_kindOf : MethodName := ⟨RX2, "kindOf", "(I)I"⟩
noncomputable abbrev cX2_dueOf : ByteArray := prog_4_method_10_code
noncomputable def yX2_dueOf : MethodName := ⟨RX2, "dueOf", "(I)I"⟩
noncomputable abbrev cX2_isOf : ByteArray := prog_4_method_11_code
noncomputable def yX2_isOf : MethodName := ⟨RX2, "isOf", "(II)Z"⟩
noncomputable abbrev cX2_howManyAre : ByteArray := prog_4_method_12_code
noncomputable def yX2_howManyAre : MethodName := ⟨RX2, "howManyAre", "(I)I"⟩
noncomputable abbrev cX2_crownOf : ByteArray := prog_4_method_13_code
noncomputable def yX2_crownOf : MethodName := ⟨RX2, "crownOf", "(II)I"⟩
noncomputable abbrev cX2_touches : ByteArray := prog_4_method_14_code
noncomputable def yX2_touches : MethodName := ⟨RX2, "touches", "(II)Z"⟩
noncomputable abbrev cX2_rudeness : ByteArray := prog_4_method_15_code
noncomputable def yX2_rudeness : MethodName := ⟨RX2, "rudeness", "(III)I"⟩
noncomputable abbrev cX2_borderAfter : ByteArray := prog_4_method_16_code
noncomputable def yX2_borderAfter : MethodName := ⟨RX2, "borderAfter", "(IIII)I"⟩
noncomputable abbrev cX2_dueTo : ByteArray := prog_4_method_17_code
noncomputable def yX2_dueTo : MethodName := ⟨RX2, "dueTo", "(IIII)I"⟩
noncomputable def RX3 : String := "PaceBorder$Past"
noncomputable def TX3 : u_T := fun k => match k with
  | 0 => ("PaceBorder$Past", "ground", "LPaceBorder$Ground;", true)
  | 1 => ("PaceBorder$Past", "days", "LPaceBorder$Days;", true)
  | 2 => ("PaceBorder$Past", "guess", "LPaceBorder$Ground;", true)
  | _ => ("PaceBorder$Past", "trail", "[I", true)
noncomputable def tyX3 : Nat → FieldType := fun k => match k with
  | 0 => .object "PaceBorder$Ground"
  | 1 => .object "PaceBorder$Days"
  | 2 => .object "PaceBorder$Ground"
  | _ => .array .int
noncomputable abbrev wsX30 : List Cond := u_ws RX3 TX3 4
theorem nmX3 : ∀ a, a < 4 → ∀ b, b < 4 → a ≠ b → (TX3 a).2.1 ≠ (TX3 b).2.1 := by decide +kernel
theorem tyX3_ok : ∀ k, k < 4 → parseFieldDescriptor (TX3 k).2.2.1 = some (tyX3 k) := by decide +kernel
noncomputable abbrev cX3_init : ByteArray := prog_5_method_1_code
noncomputable def yX3_init : MethodName := ⟨RX3, "<init>", "(LPaceBorder$Ground;LPaceBorder$Days;)V"⟩
noncomputable abbrev cX3_areBooks : ByteArray := prog_5_method_2_code
noncomputable def yX3_areBooks : MethodName := ⟨RX3, "areBooks", "(LPaceBorder$Shelf;I)Z"⟩
noncomputable abbrev cX3_startsThatFit : ByteArray := prog_5_method_3_code
noncomputable def yX3_startsThatFit : MethodName := ⟨RX3, "startsThatFit", "(LPaceBorder$Shelf;I)I"⟩
noncomputable abbrev cX3_fits : ByteArray := prog_5_method_4_code
noncomputable def yX3_fits : MethodName := ⟨RX3, "fits", "(LPaceBorder$Shelf;I)Z"⟩
noncomputable abbrev cX3_trailAt : ByteArray := prog_5_method_5_code
noncomputable def yX3_trailAt : MethodName := ⟨RX3, "trailAt", "(I)I"⟩
noncomputable abbrev cX3_kindsThatFit : ByteArray := prog_5_method_6_code
noncomputable def yX3_kindsThatFit : MethodName := ⟨RX3, "kindsThatFit", "(I)I"⟩
noncomputable def RX4 : String := "PaceBorder$Plan"
noncomputable def TX4 : u_T := fun k => match k with
  | 0 => ("PaceBorder$Plan", "ground", "LPaceBorder$Ground;", true)
  | 1 => ("PaceBorder$Plan", "days", "LPaceBorder$Days;", true)
  | 2 => ("PaceBorder$Plan", "tolls", "[I", true)
  | 3 => ("PaceBorder$Plan", "costs", "[I", true)
  | 4 => ("PaceBorder$Plan", "many", "[J", true)
  | 5 => ("PaceBorder$Plan", "manyNext", "[J", true)
  | _ => ("PaceBorder$Plan", "byRudeness", "Z", false)
noncomputable def tyX4 : Nat → FieldType := fun k => match k with
  | 0 => .object "PaceBorder$Ground"
  | 1 => .object "PaceBorder$Days"
  | 2 => .array .int
  | 3 => .array .int
  | 4 => .array .long
  | 5 => .array .long
  | _ => .boolean
noncomputable abbrev wsX40 : List Cond := u_ws RX4 TX4 7
theorem nmX4 : ∀ a, a < 7 → ∀ b, b < 7 → a ≠ b → (TX4 a).2.1 ≠ (TX4 b).2.1 := by decide +kernel
theorem tyX4_ok : ∀ k, k < 7 → parseFieldDescriptor (TX4 k).2.2.1 = some (tyX4 k) := by decide +kernel
noncomputable abbrev cX4_init : ByteArray := prog_6_method_1_code
noncomputable def yX4_init : MethodName := ⟨RX4, "<init>", "(LPaceBorder$Ground;LPaceBorder$Days;)V"⟩
noncomputable abbrev cX4_firstThatCannotBe : ByteArray := prog_6_method_2_code
noncomputable def yX4_firstThatCannotBe : MethodName := ⟨RX4, "firstThatCannotBe", "(LPaceBorder$Shelf;I)I"⟩
noncomputable abbrev cX4_borderBehind : ByteArray := prog_6_method_3_code
noncomputable def yX4_borderBehind : MethodName := ⟨RX4, "borderBehind", "(LPaceBorder$Shelf;II)I"⟩
noncomputable abbrev cX4_rudenessOf : ByteArray := prog_6_method_4_code
noncomputable def yX4_rudenessOf : MethodName := ⟨RX4, "rudenessOf", "(LPaceBorder$Shelf;I)I"⟩
noncomputable abbrev cX4_tollsOf : ByteArray := prog_6_method_5_code
noncomputable def yX4_tollsOf : MethodName := ⟨RX4, "tollsOf", "(LPaceBorder$Shelf;I)I"⟩
noncomputable abbrev cX4_tollNothing : ByteArray := prog_6_method_6_code
noncomputable def yX4_tollNothing : MethodName := ⟨RX4, "tollNothing", "()V"⟩
noncomputable abbrev cX4_tollOfStrip : ByteArray := prog_6_method_7_code
noncomputable def yX4_tollOfStrip : MethodName := ⟨RX4, "tollOfStrip", "(I)V"⟩
noncomputable abbrev cX4_tollLostBy : ByteArray := prog_6_method_8_code
noncomputable def yX4_tollLostBy : MethodName := ⟨RX4, "tollLostBy", "(I)V"⟩
noncomputable abbrev cX4_tollAt : ByteArray := prog_6_method_9_code
noncomputable def yX4_tollAt : MethodName := ⟨RX4, "tollAt", "(II)I"⟩
noncomputable abbrev cX4_solve : ByteArray := prog_6_method_10_code
noncomputable def yX4_solve : MethodName := ⟨RX4, "solve", "(IIZ)V"⟩
noncomputable abbrev cX4_leastCost : ByteArray := prog_6_method_11_code
noncomputable def yX4_leastCost : MethodName := ⟨RX4, "leastCost", "(II)I"⟩
noncomputable abbrev cX4_costBy : ByteArray := prog_6_method_12_code
noncomputable def yX4_costBy : MethodName := ⟨RX4, "costBy", "(III)I"⟩
noncomputable abbrev cX4_costFrom : ByteArray := prog_6_method_13_code
noncomputable def yX4_costFrom : MethodName := ⟨RX4, "costFrom", "(II)I"⟩
noncomputable abbrev cX4_setCost : ByteArray := prog_6_method_14_code
noncomputable def yX4_setCost : MethodName := ⟨RX4, "setCost", "(III)V"⟩
noncomputable abbrev cX4_firstMove : ByteArray := prog_6_method_15_code
noncomputable def yX4_firstMove : MethodName := ⟨RX4, "firstMove", "(II)I"⟩
noncomputable abbrev cX4_fewestDaysTo : ByteArray := prog_6_method_16_code
noncomputable def yX4_fewestDaysTo : MethodName := ⟨RX4, "fewestDaysTo", "(I)I"⟩
noncomputable abbrev cX4_reachIn : ByteArray := prog_6_method_17_code
noncomputable def yX4_reachIn : MethodName := ⟨RX4, "reachIn", "(I)I"⟩
noncomputable abbrev cX4_spread : ByteArray := prog_6_method_18_code
noncomputable def yX4_spread : MethodName := ⟨RX4, "spread", "(II)I"⟩
noncomputable abbrev cX4_placesBehind : ByteArray := prog_6_method_19_code
noncomputable def yX4_placesBehind : MethodName := ⟨RX4, "placesBehind", "(II)I"⟩
noncomputable abbrev cX4_waysTo : ByteArray := prog_6_method_20_code
noncomputable def yX4_waysTo : MethodName := ⟨RX4, "waysTo", "(II)J"⟩
noncomputable abbrev cX4_passOn : ByteArray := prog_6_method_21_code
noncomputable def yX4_passOn : MethodName := ⟨RX4, "passOn", "(II)V"⟩
noncomputable abbrev cX4_isSlot : ByteArray := prog_6_method_22_code
noncomputable def yX4_isSlot : MethodName := ⟨RX4, "isSlot", "(I)Z"⟩
noncomputable def RX5 : String := "PaceBorder$Reader"
noncomputable def TX5 : u_T := fun k => match k with
  | 0 => ("PaceBorder$Reader", "draft", "LPaceBorder$Ground;", true)
  | 1 => ("PaceBorder$Reader", "border", "I", false)
  | 2 => ("PaceBorder$Reader", "rate0", "I", false)
  | 3 => ("PaceBorder$Reader", "rate1", "I", false)
  | 4 => ("PaceBorder$Reader", "texts", "LPaceBorder$Shelf;", true)
  | 5 => ("PaceBorder$Reader", "t", "I", false)
  | _ => ("PaceBorder$Reader", "place", "I", false)
noncomputable def tyX5 : Nat → FieldType := fun k => match k with
  | 0 => .object "PaceBorder$Ground"
  | 1 => .int
  | 2 => .int
  | 3 => .int
  | 4 => .object "PaceBorder$Shelf"
  | 5 => .int
  | _ => .int
noncomputable abbrev wsX50 : List Cond := u_ws RX5 TX5 7
theorem nmX5 : ∀ a, a < 7 → ∀ b, b < 7 → a ≠ b → (TX5 a).2.1 ≠ (TX5 b).2.1 := by decide +kernel
theorem tyX5_ok : ∀ k, k < 7 → parseFieldDescriptor (TX5 k).2.2.1 = some (tyX5 k) := by decide +kernel
noncomputable abbrev cX5_init : ByteArray := prog_7_method_1_code
noncomputable def yX5_init : MethodName := ⟨RX5, "<init>", "(LPaceBorder$Shelf;)V"⟩
noncomputable abbrev cX5_read : ByteArray := prog_7_method_2_code
noncomputable def yX5_read : MethodName := ⟨RX5, "read", "(I)I"⟩
noncomputable abbrev cX5_skipBlanks : ByteArray := prog_7_method_3_code
noncomputable def yX5_skipBlanks : MethodName := ⟨RX5, "skipBlanks", "()V"⟩
noncomputable abbrev cX5_sign : ByteArray := prog_7_method_4_code
noncomputable def yX5_sign : MethodName := ⟨RX5, "sign", "()I"⟩
noncomputable abbrev cX5_readStrip : ByteArray := prog_7_method_5_code
noncomputable def yX5_readStrip : MethodName := ⟨RX5, "readStrip", "()Z"⟩
noncomputable abbrev cX5_readEnd : ByteArray := prog_7_method_6_code
noncomputable def yX5_readEnd : MethodName := ⟨RX5, "readEnd", "()Z"⟩
noncomputable abbrev cX5_readFigure : ByteArray := prog_7_method_7_code
noncomputable def yX5_readFigure : MethodName := ⟨RX5, "readFigure", "(II)I"⟩
noncomputable abbrev cX5_kindOfSign : ByteArray := prog_7_method_8_code
noncomputable def yX5_kindOfSign : MethodName := ⟨RX5, "kindOfSign", "(I)I"⟩
noncomputable def RX6 : String := "PaceBorder$Shelf"
noncomputable def TX6 : u_T := fun k => match k with
  | 0 => ("PaceBorder$Shelf", "many", "I", true)
  | 1 => ("PaceBorder$Shelf", "limit", "I", true)
  | 2 => ("PaceBorder$Shelf", "filler", "I", true)
  | 3 => ("PaceBorder$Shelf", "sizes", "[I", true)
  | _ => ("PaceBorder$Shelf", "places", "[I", true)
noncomputable def tyX6 : Nat → FieldType := fun k => match k with
  | 0 => .int
  | 1 => .int
  | 2 => .int
  | 3 => .array .int
  | _ => .array .int
noncomputable abbrev wsX60 : List Cond := u_ws RX6 TX6 5
theorem nmX6 : ∀ a, a < 5 → ∀ b, b < 5 → a ≠ b → (TX6 a).2.1 ≠ (TX6 b).2.1 := by decide +kernel
theorem tyX6_ok : ∀ k, k < 5 → parseFieldDescriptor (TX6 k).2.2.1 = some (tyX6 k) := by decide +kernel
noncomputable abbrev cX6_init : ByteArray := prog_8_method_1_code
noncomputable def yX6_init : MethodName := ⟨RX6, "<init>", "(III)V"⟩
noncomputable abbrev cX6_isNumber : ByteArray := prog_8_method_2_code
noncomputable def yX6_isNumber : MethodName := ⟨RX6, "isNumber", "(I)Z"⟩
noncomputable abbrev cX6_isThere : ByteArray := prog_8_method_3_code
noncomputable def yX6_isThere : MethodName := ⟨RX6, "isThere", "(I)Z"⟩
noncomputable abbrev cX6_sizeOf : ByteArray := prog_8_method_4_code
noncomputable def yX6_sizeOf : MethodName := ⟨RX6, "sizeOf", "(I)I"⟩
noncomputable abbrev cX6_hasPlace : ByteArray := prog_8_method_5_code
noncomputable def yX6_hasPlace : MethodName := ⟨RX6, "hasPlace", "(II)Z"⟩
noncomputable abbrev cX6_holds : ByteArray := prog_8_method_6_code
noncomputable def yX6_holds : MethodName := ⟨RX6, "holds", "(III)Z"⟩
noncomputable abbrev cX6_make : ByteArray := prog_8_method_7_code
noncomputable def yX6_make : MethodName := ⟨RX6, "make", "(II)V"⟩
noncomputable abbrev cX6_remove : ByteArray := prog_8_method_8_code
noncomputable def yX6_remove : MethodName := ⟨RX6, "remove", "(I)V"⟩
noncomputable abbrev cX6_get : ByteArray := prog_8_method_9_code
noncomputable def yX6_get : MethodName := ⟨RX6, "get", "(II)I"⟩
noncomputable abbrev cX6_set : ByteArray := prog_8_method_10_code
noncomputable def yX6_set : MethodName := ⟨RX6, "set", "(III)V"⟩
noncomputable abbrev cX6_bring : ByteArray := prog_8_method_11_code
noncomputable def yX6_bring : MethodName := ⟨RX6, "bring", "(IIIII)V"⟩
noncomputable abbrev cX6_sum : ByteArray := prog_8_method_12_code
noncomputable def yX6_sum : MethodName := ⟨RX6, "sum", "(I)J"⟩
noncomputable abbrev cX6_isAllWithin : ByteArray := prog_8_method_13_code
noncomputable def yX6_isAllWithin : MethodName := ⟨RX6, "isAllWithin", "(III)Z"⟩
noncomputable abbrev cX6_howMany : ByteArray := prog_8_method_14_code
noncomputable def yX6_howMany : MethodName := ⟨RX6, "howMany", "()I"⟩
noncomputable abbrev cX6_digestOnto : ByteArray := prog_8_method_15_code
noncomputable def yX6_digestOnto : MethodName := ⟨RX6, "digestOnto", "(J)J"⟩
noncomputable def RX7 : String := "PaceBorder$Turns"
noncomputable def TX7 : u_T := fun k => match k with
  | 0 => ("PaceBorder$Turns", "ground", "LPaceBorder$Ground;", true)
  | 1 => ("PaceBorder$Turns", "days", "LPaceBorder$Days;", true)
  | 2 => ("PaceBorder$Turns", "worths", "[I", true)
  | 3 => ("PaceBorder$Turns", "sayings", "[I", true)
  | _ => ("PaceBorder$Turns", "price", "I", false)
noncomputable def tyX7 : Nat → FieldType := fun k => match k with
  | 0 => .object "PaceBorder$Ground"
  | 1 => .object "PaceBorder$Days"
  | 2 => .array .int
  | 3 => .array .int
  | _ => .int
noncomputable abbrev wsX70 : List Cond := u_ws RX7 TX7 5
theorem nmX7 : ∀ a, a < 5 → ∀ b, b < 5 → a ≠ b → (TX7 a).2.1 ≠ (TX7 b).2.1 := by decide +kernel
theorem tyX7_ok : ∀ k, k < 5 → parseFieldDescriptor (TX7 k).2.2.1 = some (tyX7 k) := by decide +kernel
noncomputable abbrev cX7_init : ByteArray := prog_9_method_1_code
noncomputable def yX7_init : MethodName := ⟨RX7, "<init>", "(LPaceBorder$Ground;LPaceBorder$Days;)V"⟩
noncomputable abbrev cX7_solve : ByteArray := prog_9_method_2_code
noncomputable def yX7_solve : MethodName := ⟨RX7, "solve", "(II)V"⟩
noncomputable abbrev cX7_choose : ByteArray := prog_9_method_3_code
noncomputable def yX7_choose : MethodName := ⟨RX7, "choose", "(II)V"⟩
noncomputable abbrev cX7_bestReply : ByteArray := prog_9_method_4_code
noncomputable def yX7_bestReply : MethodName := ⟨RX7, "bestReply", "(III)I"⟩
noncomputable abbrev cX7_worthOfBoth : ByteArray := prog_9_method_5_code
noncomputable def yX7_worthOfBoth : MethodName := ⟨RX7, "worthOfBoth", "(IIII)I"⟩
noncomputable abbrev cX7_note : ByteArray := prog_9_method_6_code
noncomputable def yX7_note : MethodName := ⟨RX7, "note", "(IIII)V"⟩
noncomputable abbrev cX7_worthOf : ByteArray := prog_9_method_7_code
noncomputable def yX7_worthOf : MethodName := ⟨RX7, "worthOf", "(II)I"⟩
noncomputable abbrev cX7_bestSaying : ByteArray := prog_9_method_8_code
noncomputable def yX7_bestSaying : MethodName := ⟨RX7, "bestSaying", "(II)I"⟩
noncomputable abbrev cX7_isSlot : ByteArray := prog_9_method_9_code
noncomputable def yX7_isSlot : MethodName := ⟨RX7, "isSlot", "(II)Z"⟩
noncomputable abbrev cX7_isCalm : ByteArray := prog_9_method_10_code
noncomputable def yX7_isCalm : MethodName := ⟨RX7, "isCalm", "(I)Z"⟩
noncomputable def RX8 : String := "PaceBorder"
noncomputable def TX8 : u_T := fun k => match k with
  | 0 => ("PaceBorder", "rows", "LPaceBorder$Shelf;", true)
  | 1 => ("PaceBorder", "texts", "LPaceBorder$Shelf;", true)
  | 2 => ("PaceBorder", "reader", "LPaceBorder$Reader;", true)
  | 3 => ("PaceBorder", "ground", "LPaceBorder$Ground;", true)
  | 4 => ("PaceBorder", "days", "LPaceBorder$Days;", true)
  | 5 => ("PaceBorder", "kept", "[LPaceBorder$Days;", true)
  | 6 => ("PaceBorder", "keptDone", "[I", true)
  | 7 => ("PaceBorder", "plan", "LPaceBorder$Plan;", true)
  | 8 => ("PaceBorder", "chance", "LPaceBorder$Chance;", true)
  | 9 => ("PaceBorder", "turns", "LPaceBorder$Turns;", true)
  | 10 => ("PaceBorder", "past", "LPaceBorder$Past;", true)
  | 11 => ("PaceBorder", "findingCounts", "[I", true)
  | 12 => ("PaceBorder", "lastFinding", "I", false)
  | 13 => ("PaceBorder", "lastAsked", "I", false)
  | 14 => ("PaceBorder", "lastUpper", "J", false)
  | _ => ("PaceBorder", "lastLower", "J", false)
noncomputable def tyX8 : Nat → FieldType := fun k => match k with
  | 0 => .object "PaceBorder$Shelf"
  | 1 => .object "PaceBorder$Shelf"
  | 2 => .object "PaceBorder$Reader"
  | 3 => .object "PaceBorder$Ground"
  | 4 => .object "PaceBorder$Days"
  | 5 => .array (.object "PaceBorder$Days")
  | 6 => .array .int
  | 7 => .object "PaceBorder$Plan"
  | 8 => .object "PaceBorder$Chance"
  | 9 => .object "PaceBorder$Turns"
  | 10 => .object "PaceBorder$Past"
  | 11 => .array .int
  | 12 => .int
  | 13 => .int
  | 14 => .long
  | _ => .long
noncomputable abbrev wsX80 : List Cond := u_ws RX8 TX8 16
theorem nmX8 : ∀ a, a < 16 → ∀ b, b < 16 → a ≠ b → (TX8 a).2.1 ≠ (TX8 b).2.1 := by decide +kernel
theorem tyX8_ok : ∀ k, k < 16 → parseFieldDescriptor (TX8 k).2.2.1 = some (tyX8 k) := by decide +kernel
noncomputable abbrev cX8_init : ByteArray := prog_1_method_1_code
noncomputable def yX8_init : MethodName := ⟨RX8, "<init>", "()V"⟩
noncomputable abbrev cX8_row : ByteArray := prog_1_method_2_code
noncomputable def yX8_row : MethodName := ⟨RX8, "row", "(II)I"⟩
noncomputable abbrev cX8_lay : ByteArray := prog_1_method_3_code
noncomputable def yX8_lay : MethodName := ⟨RX8, "lay", "(III)I"⟩
noncomputable abbrev cX8_at : ByteArray := prog_1_method_4_code
noncomputable def yX8_at : MethodName := ⟨RX8, "at", "(II)I"⟩
noncomputable abbrev cX8_tear : ByteArray := prog_1_method_5_code
noncomputable def yX8_tear : MethodName := ⟨RX8, "tear", "(I)I"⟩
noncomputable abbrev cX8_copy : ByteArray := prog_1_method_6_code
noncomputable def yX8_copy : MethodName := ⟨RX8, "copy", "(IIIII)I"⟩
noncomputable abbrev cX8_mean : ByteArray := prog_1_method_7_code
noncomputable def yX8_mean : MethodName := ⟨RX8, "mean", "(I)I"⟩
noncomputable abbrev cX8_text : ByteArray := prog_1_method_8_code
noncomputable def yX8_text : MethodName := ⟨RX8, "text", "(II)I"⟩
noncomputable abbrev cX8_put : ByteArray := prog_1_method_9_code
noncomputable def yX8_put : MethodName := ⟨RX8, "put", "(III)I"⟩
noncomputable abbrev cX8_fault : ByteArray := prog_1_method_10_code
noncomputable def yX8_fault : MethodName := ⟨RX8, "fault", "(I)I"⟩
noncomputable abbrev cX8_land : ByteArray := prog_1_method_11_code
noncomputable def yX8_land : MethodName := ⟨RX8, "land", "(I)I"⟩
noncomputable abbrev cX8_strip : ByteArray := prog_1_method_12_code
noncomputable def yX8_strip : MethodName := ⟨RX8, "strip", "(II)I"⟩
noncomputable abbrev cX8_mark : ByteArray := prog_1_method_13_code
noncomputable def yX8_mark : MethodName := ⟨RX8, "mark", "(II)I"⟩
noncomputable abbrev cX8_rate : ByteArray := prog_1_method_14_code
noncomputable def yX8_rate : MethodName := ⟨RX8, "rate", "(II)I"⟩
noncomputable abbrev cX8_day : ByteArray := prog_1_method_15_code
noncomputable def yX8_day : MethodName := ⟨RX8, "day", "(II)I"⟩
noncomputable abbrev cX8_undo : ByteArray := prog_1_method_16_code
noncomputable def yX8_undo : MethodName := ⟨RX8, "undo", "(I)I"⟩
noncomputable abbrev cX8_border : ByteArray := prog_1_method_17_code
noncomputable def yX8_border : MethodName := ⟨RX8, "border", "()I"⟩
noncomputable abbrev cX8_lain : ByteArray := prog_1_method_18_code
noncomputable def yX8_lain : MethodName := ⟨RX8, "lain", "(I)I"⟩
noncomputable abbrev cX8_got : ByteArray := prog_1_method_19_code
noncomputable def yX8_got : MethodName := ⟨RX8, "got", "(I)I"⟩
noncomputable abbrev cX8_keep : ByteArray := prog_1_method_20_code
noncomputable def yX8_keep : MethodName := ⟨RX8, "keep", "(I)I"⟩
noncomputable abbrev cX8_on : ByteArray := prog_1_method_21_code
noncomputable def yX8_on : MethodName := ⟨RX8, "on", "(I)I"⟩
noncomputable abbrev cX8_moves : ByteArray := prog_1_method_22_code
noncomputable def yX8_moves : MethodName := ⟨RX8, "moves", "()I"⟩
noncomputable abbrev cX8_judge : ByteArray := prog_1_method_23_code
noncomputable def yX8_judge : MethodName := ⟨RX8, "judge", "(I)I"⟩
noncomputable abbrev cX8_rude : ByteArray := prog_1_method_24_code
noncomputable def yX8_rude : MethodName := ⟨RX8, "rude", "(I)I"⟩
noncomputable abbrev cX8_pays : ByteArray := prog_1_method_25_code
noncomputable def yX8_pays : MethodName := ⟨RX8, "pays", "(II)I"⟩
noncomputable abbrev cX8_soonest : ByteArray := prog_1_method_26_code
noncomputable def yX8_soonest : MethodName := ⟨RX8, "soonest", "(II)I"⟩
noncomputable abbrev cX8_polite : ByteArray := prog_1_method_27_code
noncomputable def yX8_polite : MethodName := ⟨RX8, "polite", "(III)I"⟩
noncomputable abbrev cX8_ways : ByteArray := prog_1_method_28_code
noncomputable def yX8_ways : MethodName := ⟨RX8, "ways", "(II)I"⟩
noncomputable abbrev cX8_reach : ByteArray := prog_1_method_29_code
noncomputable def yX8_reach : MethodName := ⟨RX8, "reach", "(I)I"⟩
noncomputable abbrev cX8_least : ByteArray := prog_1_method_30_code
noncomputable def yX8_least : MethodName := ⟨RX8, "least", "(III)I"⟩
noncomputable abbrev cX8_most : ByteArray := prog_1_method_31_code
noncomputable def yX8_most : MethodName := ⟨RX8, "most", "(II)I"⟩
noncomputable abbrev cX8_now : ByteArray := prog_1_method_32_code
noncomputable def yX8_now : MethodName := ⟨RX8, "now", "()I"⟩
noncomputable abbrev cX8_odds : ByteArray := prog_1_method_33_code
noncomputable def yX8_odds : MethodName := ⟨RX8, "odds", "(II)I"⟩
noncomputable abbrev cX8_met : ByteArray := prog_1_method_34_code
noncomputable def yX8_met : MethodName := ⟨RX8, "met", "(II)I"⟩
noncomputable abbrev cX8_hedge : ByteArray := prog_1_method_35_code
noncomputable def yX8_hedge : MethodName := ⟨RX8, "hedge", "(II)I"⟩
noncomputable abbrev cX8_game : ByteArray := prog_1_method_36_code
noncomputable def yX8_game : MethodName := ⟨RX8, "game", "(II)I"⟩
noncomputable abbrev cX8_said : ByteArray := prog_1_method_37_code
noncomputable def yX8_said : MethodName := ⟨RX8, "said", "(II)I"⟩
noncomputable abbrev cX8_calm : ByteArray := prog_1_method_38_code
noncomputable def yX8_calm : MethodName := ⟨RX8, "calm", "(II)I"⟩
noncomputable abbrev cX8_law : ByteArray := prog_1_method_39_code
noncomputable def yX8_law : MethodName := ⟨RX8, "law", "(II)I"⟩
noncomputable abbrev cX8_books : ByteArray := prog_1_method_40_code
noncomputable def yX8_books : MethodName := ⟨RX8, "books", "(I)I"⟩
noncomputable abbrev cX8_kinds : ByteArray := prog_1_method_41_code
noncomputable def yX8_kinds : MethodName := ⟨RX8, "kinds", "(I)I"⟩
noncomputable abbrev cX8_lots : ByteArray := prog_1_method_42_code
noncomputable def yX8_lots : MethodName := ⟨RX8, "lots", "(II)I"⟩
noncomputable abbrev cX8_asked : ByteArray := prog_1_method_43_code
noncomputable def yX8_asked : MethodName := ⟨RX8, "asked", "()I"⟩
noncomputable abbrev cX8_upper : ByteArray := prog_1_method_44_code
noncomputable def yX8_upper : MethodName := ⟨RX8, "upper", "()J"⟩
noncomputable abbrev cX8_lower : ByteArray := prog_1_method_45_code
noncomputable def yX8_lower : MethodName := ⟨RX8, "lower", "()J"⟩
noncomputable abbrev cX8_count : ByteArray := prog_1_method_46_code
noncomputable def yX8_count : MethodName := ⟨RX8, "count", "(I)I"⟩
noncomputable abbrev cX8_finding : ByteArray := prog_1_method_47_code
noncomputable def yX8_finding : MethodName := ⟨RX8, "finding", "()I"⟩
noncomputable abbrev cX8_findings : ByteArray := prog_1_method_48_code
noncomputable def yX8_findings : MethodName := ⟨RX8, "findings", "(I)I"⟩
noncomputable abbrev cX8_digest : ByteArray := prog_1_method_49_code
noncomputable def yX8_digest : MethodName := ⟨RX8, "digest", "()J"⟩
noncomputable abbrev cX8_find : ByteArray := prog_1_method_50_code
noncomputable def yX8_find : MethodName := ⟨RX8, "find", "(I)I"⟩
noncomputable abbrev cX8_tell : ByteArray := prog_1_method_51_code
noncomputable def yX8_tell : MethodName := ⟨RX8, "tell", "(I)I"⟩
noncomputable abbrev cX8_tellChance : ByteArray := prog_1_method_52_code
noncomputable def yX8_tellChance : MethodName := ⟨RX8, "tellChance", "(JJ)I"⟩
noncomputable abbrev cX8_lackingPlace : ByteArray := prog_1_method_53_code
noncomputable def yX8_lackingPlace : MethodName := ⟨RX8, "lackingPlace", "(LPaceBorder$Shelf;II)I"⟩
noncomputable abbrev cX8_hasNoLand : ByteArray := prog_1_method_54_code
noncomputable def yX8_hasNoLand : MethodName := ⟨RX8, "hasNoLand", "()Z"⟩
noncomputable abbrev cX8_isCrown : ByteArray := prog_1_method_55_code
noncomputable def yX8_isCrown : MethodName := ⟨RX8, "isCrown", "(I)Z"⟩
noncomputable abbrev cX8_isPlanLength : ByteArray := prog_1_method_56_code
noncomputable def yX8_isPlanLength : MethodName := ⟨RX8, "isPlanLength", "(I)Z"⟩
noncomputable abbrev cX8_isChanceLength : ByteArray := prog_1_method_57_code
noncomputable def yX8_isChanceLength : MethodName := ⟨RX8, "isChanceLength", "(I)Z"⟩
noncomputable abbrev cX8_isGame : ByteArray := prog_1_method_58_code
noncomputable def yX8_isGame : MethodName := ⟨RX8, "isGame", "(II)Z"⟩
noncomputable abbrev cX8_canGo : ByteArray := prog_1_method_59_code
noncomputable def yX8_canGo : MethodName := ⟨RX8, "canGo", "(I)Z"⟩
noncomputable abbrev cX8_layPlan : ByteArray := prog_1_method_60_code
noncomputable def yX8_layPlan : MethodName := ⟨RX8, "layPlan", "(II)V"⟩
noncomputable abbrev cX8_stripFact : ByteArray := prog_1_method_61_code
noncomputable def yX8_stripFact : MethodName := ⟨RX8, "stripFact", "(II)I"⟩
noncomputable abbrev cX8_keptLands : ByteArray := prog_1_method_62_code
noncomputable def yX8_keptLands : MethodName := ⟨RX8, "keptLands", "()I"⟩
noncomputable def RX9 : String := "PaceBorderModel"
noncomputable def TX9 : u_T := fun k => match k with
  | 0 => ("PaceBorderModel", "land", "[I", true)
  | 1 => ("PaceBorderModel", "strips", "I", false)
  | 2 => ("PaceBorderModel", "kinds", "[I", true)
  | 3 => ("PaceBorderModel", "dues", "[I", true)
  | 4 => ("PaceBorderModel", "sizes", "[I", true)
  | 5 => ("PaceBorderModel", "items", "[I", true)
  | 6 => ("PaceBorderModel", "lengths", "[I", true)
  | 7 => ("PaceBorderModel", "bytes", "[I", true)
  | 8 => ("PaceBorderModel", "asked", "I", false)
  | 9 => ("PaceBorderModel", "upper", "J", false)
  | 10 => ("PaceBorderModel", "lower", "J", false)
  | 11 => ("PaceBorderModel", "finding", "I", false)
  | 12 => ("PaceBorderModel", "findings", "[I", true)
  | 13 => ("PaceBorderModel", "from", "I", false)
  | 14 => ("PaceBorderModel", "place", "I", false)
  | 15 => ("PaceBorderModel", "end", "I", false)
  | 16 => ("PaceBorderModel", "readStrips", "[I", true)
  | 17 => ("PaceBorderModel", "readMany", "I", false)
  | 18 => ("PaceBorderModel", "readEnd", "[I", true)
  | 19 => ("PaceBorderModel", "goneTo", "I", false)
  | 20 => ("PaceBorderModel", "goneRude", "I", false)
  | 21 => ("PaceBorderModel", "values", "[I", true)
  | 22 => ("PaceBorderModel", "counted", "I", false)
  | 23 => ("PaceBorderModel", "whose", "I", false)
  | 24 => ("PaceBorderModel", "ways", "[J", true)
  | 25 => ("PaceBorderModel", "chances", "[J", true)
  | 26 => ("PaceBorderModel", "nexts", "[J", true)
  | 27 => ("PaceBorderModel", "paid", "J", false)
  | 28 => ("PaceBorderModel", "games", "[I", true)
  | 29 => ("PaceBorderModel", "gameDays", "I", false)
  | _ => ("PaceBorderModel", "worth", "I", false)
noncomputable def tyX9 : Nat → FieldType := fun k => match k with
  | 0 => .array .int
  | 1 => .int
  | 2 => .array .int
  | 3 => .array .int
  | 4 => .array .int
  | 5 => .array .int
  | 6 => .array .int
  | 7 => .array .int
  | 8 => .int
  | 9 => .long
  | 10 => .long
  | 11 => .int
  | 12 => .array .int
  | 13 => .int
  | 14 => .int
  | 15 => .int
  | 16 => .array .int
  | 17 => .int
  | 18 => .array .int
  | 19 => .int
  | 20 => .int
  | 21 => .array .int
  | 22 => .int
  | 23 => .int
  | 24 => .array .long
  | 25 => .array .long
  | 26 => .array .long
  | 27 => .long
  | 28 => .array .int
  | 29 => .int
  | _ => .int
noncomputable abbrev wsX90 : List Cond := u_ws RX9 TX9 31
theorem nmX9 : ∀ a, a < 31 → ∀ b, b < 31 → a ≠ b → (TX9 a).2.1 ≠ (TX9 b).2.1 := by decide +kernel
theorem tyX9_ok : ∀ k, k < 31 → parseFieldDescriptor (TX9 k).2.2.1 = some (tyX9 k) := by decide +kernel
noncomputable abbrev cX9_init : ByteArray := prog_11_method_1_code
noncomputable def yX9_init : MethodName := ⟨RX9, "<init>", "()V"⟩
noncomputable abbrev cX9_in : ByteArray := prog_11_method_2_code
noncomputable def yX9_in : MethodName := ⟨RX9, "in", "(JJJ)Z"⟩
noncomputable abbrev cX9_has : ByteArray := prog_11_method_3_code
noncomputable def yX9_has : MethodName := ⟨RX9, "has", "(II)Z"⟩
noncomputable abbrev cX9_find : ByteArray := prog_11_method_4_code
noncomputable def yX9_find : MethodName := ⟨RX9, "find", "(I)I"⟩
noncomputable abbrev cX9_tell : ByteArray := prog_11_method_5_code
noncomputable def yX9_tell : MethodName := ⟨RX9, "tell", "(I)I"⟩
noncomputable abbrev cX9_isRow : ByteArray := prog_11_method_6_code
noncomputable def yX9_isRow : MethodName := ⟨RX9, "isRow", "(I)Z"⟩
noncomputable abbrev cX9_isText : ByteArray := prog_11_method_7_code
noncomputable def yX9_isText : MethodName := ⟨RX9, "isText", "(I)Z"⟩
noncomputable abbrev cX9_row : ByteArray := prog_11_method_8_code
noncomputable def yX9_row : MethodName := ⟨RX9, "row", "(II)I"⟩
noncomputable abbrev cX9_makeRow : ByteArray := prog_11_method_9_code
noncomputable def yX9_makeRow : MethodName := ⟨RX9, "makeRow", "(II)V"⟩
noncomputable abbrev cX9_refused : ByteArray := prog_11_method_10_code
noncomputable def yX9_refused : MethodName := ⟨RX9, "refused", "(II)I"⟩
noncomputable abbrev cX9_lay : ByteArray := prog_11_method_11_code
noncomputable def yX9_lay : MethodName := ⟨RX9, "lay", "(III)I"⟩
noncomputable abbrev cX9_at : ByteArray := prog_11_method_12_code
noncomputable def yX9_at : MethodName := ⟨RX9, "at", "(II)I"⟩
noncomputable abbrev cX9_tear : ByteArray := prog_11_method_13_code
noncomputable def yX9_tear : MethodName := ⟨RX9, "tear", "(I)I"⟩
noncomputable abbrev cX9_isSpan : ByteArray := prog_11_method_14_code
noncomputable def yX9_isSpan : MethodName := ⟨RX9, "isSpan", "(III)Z"⟩
noncomputable abbrev cX9_copy : ByteArray := prog_11_method_15_code
noncomputable def yX9_copy : MethodName := ⟨RX9, "copy", "(IIIII)I"⟩
noncomputable abbrev cX9_mean : ByteArray := prog_11_method_16_code
noncomputable def yX9_mean : MethodName := ⟨RX9, "mean", "(I)I"⟩
noncomputable abbrev cX9_text : ByteArray := prog_11_method_17_code
noncomputable def yX9_text : MethodName := ⟨RX9, "text", "(II)I"⟩
noncomputable abbrev cX9_put : ByteArray := prog_11_method_18_code
noncomputable def yX9_put : MethodName := ⟨RX9, "put", "(III)I"⟩
noncomputable abbrev cX9_here : ByteArray := prog_11_method_19_code
noncomputable def yX9_here : MethodName := ⟨RX9, "here", "()I"⟩
noncomputable abbrev cX9_skip : ByteArray := prog_11_method_20_code
noncomputable def yX9_skip : MethodName := ⟨RX9, "skip", "()V"⟩
noncomputable abbrev cX9_figure : ByteArray := prog_11_method_21_code
noncomputable def yX9_figure : MethodName := ⟨RX9, "figure", "(II)I"⟩
noncomputable abbrev cX9_kindHere : ByteArray := prog_11_method_22_code
noncomputable def yX9_kindHere : MethodName := ⟨RX9, "kindHere", "()I"⟩
noncomputable abbrev cX9_readsStrip : ByteArray := prog_11_method_23_code
noncomputable def yX9_readsStrip : MethodName := ⟨RX9, "readsStrip", "()Z"⟩
noncomputable abbrev cX9_readsEnd : ByteArray := prog_11_method_24_code
noncomputable def yX9_readsEnd : MethodName := ⟨RX9, "readsEnd", "()Z"⟩
noncomputable abbrev cX9_faultOf : ByteArray := prog_11_method_25_code
noncomputable def yX9_faultOf : MethodName := ⟨RX9, "faultOf", "(I)I"⟩
noncomputable abbrev cX9_fault : ByteArray := prog_11_method_26_code
noncomputable def yX9_fault : MethodName := ⟨RX9, "fault", "(I)I"⟩
noncomputable abbrev cX9_land : ByteArray := prog_11_method_27_code
noncomputable def yX9_land : MethodName := ⟨RX9, "land", "(I)I"⟩
noncomputable abbrev cX9_isStrip : ByteArray := prog_11_method_28_code
noncomputable def yX9_isStrip : MethodName := ⟨RX9, "isStrip", "(I)Z"⟩
noncomputable abbrev cX9_isWall : ByteArray := prog_11_method_29_code
noncomputable def yX9_isWall : MethodName := ⟨RX9, "isWall", "(I)Z"⟩
noncomputable abbrev cX9_behind : ByteArray := prog_11_method_30_code
noncomputable def yX9_behind : MethodName := ⟨RX9, "behind", "(IIII)I"⟩
noncomputable abbrev cX9_isAt : ByteArray := prog_11_method_31_code
noncomputable def yX9_isAt : MethodName := ⟨RX9, "isAt", "(II)Z"⟩
noncomputable abbrev cX9_paysTo : ByteArray := prog_11_method_32_code
noncomputable def yX9_paysTo : MethodName := ⟨RX9, "paysTo", "(IIII)I"⟩
noncomputable abbrev cX9_isTaxed : ByteArray := prog_11_method_33_code
noncomputable def yX9_isTaxed : MethodName := ⟨RX9, "isTaxed", "(I)Z"⟩
noncomputable abbrev cX9_goOn : ByteArray := prog_11_method_34_code
noncomputable def yX9_goOn : MethodName := ⟨RX9, "goOn", "(III)V"⟩
noncomputable abbrev cX9_strip : ByteArray := prog_11_method_35_code
noncomputable def yX9_strip : MethodName := ⟨RX9, "strip", "(II)I"⟩
noncomputable abbrev cX9_toldOf : ByteArray := prog_11_method_36_code
noncomputable def yX9_toldOf : MethodName := ⟨RX9, "toldOf", "(II)I"⟩
noncomputable abbrev cX9_isOf : ByteArray := prog_11_method_37_code
noncomputable def yX9_isOf : MethodName := ⟨RX9, "isOf", "(II)Z"⟩
noncomputable abbrev cX9_paysNow : ByteArray := prog_11_method_38_code
noncomputable def yX9_paysNow : MethodName := ⟨RX9, "paysNow", "(I)I"⟩
noncomputable abbrev cX9_mark : ByteArray := prog_11_method_39_code
noncomputable def yX9_mark : MethodName := ⟨RX9, "mark", "(II)I"⟩
noncomputable abbrev cX9_rate : ByteArray := prog_11_method_40_code
noncomputable def yX9_rate : MethodName := ⟨RX9, "rate", "(II)I"⟩
noncomputable abbrev cX9_isSaid : ByteArray := prog_11_method_41_code
noncomputable def yX9_isSaid : MethodName := ⟨RX9, "isSaid", "(I)Z"⟩
noncomputable abbrev cX9_day : ByteArray := prog_11_method_42_code
noncomputable def yX9_day : MethodName := ⟨RX9, "day", "(II)I"⟩
noncomputable abbrev cX9_copyLand : ByteArray := prog_11_method_43_code
noncomputable def yX9_copyLand : MethodName := ⟨RX9, "copyLand", "(II)V"⟩
noncomputable abbrev cX9_layAhead : ByteArray := prog_11_method_44_code
noncomputable def yX9_layAhead : MethodName := ⟨RX9, "layAhead", "(I)V"⟩
noncomputable abbrev cX9_undo : ByteArray := prog_11_method_45_code
noncomputable def yX9_undo : MethodName := ⟨RX9, "undo", "(I)I"⟩
noncomputable abbrev cX9_border : ByteArray := prog_11_method_46_code
noncomputable def yX9_border : MethodName := ⟨RX9, "border", "()I"⟩
noncomputable abbrev cX9_lain : ByteArray := prog_11_method_47_code
noncomputable def yX9_lain : MethodName := ⟨RX9, "lain", "(I)I"⟩
noncomputable abbrev cX9_got : ByteArray := prog_11_method_48_code
noncomputable def yX9_got : MethodName := ⟨RX9, "got", "(I)I"⟩
noncomputable abbrev cX9_keep : ByteArray := prog_11_method_49_code
noncomputable def yX9_keep : MethodName := ⟨RX9, "keep", "(I)I"⟩
noncomputable abbrev cX9_on : ByteArray := prog_11_method_50_code
noncomputable def yX9_on : MethodName := ⟨RX9, "on", "(I)I"⟩
noncomputable abbrev cX9_isPlace : ByteArray := prog_11_method_51_code
noncomputable def yX9_isPlace : MethodName := ⟨RX9, "isPlace", "(I)Z"⟩
noncomputable abbrev cX9_rudeness : ByteArray := prog_11_method_52_code
noncomputable def yX9_rudeness : MethodName := ⟨RX9, "rudeness", "(III)I"⟩
noncomputable abbrev cX9_canBe : ByteArray := prog_11_method_53_code
noncomputable def yX9_canBe : MethodName := ⟨RX9, "canBe", "(III)Z"⟩
noncomputable abbrev cX9_moves : ByteArray := prog_11_method_54_code
noncomputable def yX9_moves : MethodName := ⟨RX9, "moves", "()I"⟩
noncomputable abbrev cX9_areMoves : ByteArray := prog_11_method_55_code
noncomputable def yX9_areMoves : MethodName := ⟨RX9, "areMoves", "(I)Z"⟩
noncomputable abbrev cX9_goAlong : ByteArray := prog_11_method_56_code
noncomputable def yX9_goAlong : MethodName := ⟨RX9, "goAlong", "(I)I"⟩
noncomputable abbrev cX9_judge : ByteArray := prog_11_method_57_code
noncomputable def yX9_judge : MethodName := ⟨RX9, "judge", "(I)I"⟩
noncomputable abbrev cX9_rude : ByteArray := prog_11_method_58_code
noncomputable def yX9_rude : MethodName := ⟨RX9, "rude", "(I)I"⟩
noncomputable abbrev cX9_paysOn : ByteArray := prog_11_method_59_code
noncomputable def yX9_paysOn : MethodName := ⟨RX9, "paysOn", "(III)I"⟩
noncomputable abbrev cX9_pays : ByteArray := prog_11_method_60_code
noncomputable def yX9_pays : MethodName := ⟨RX9, "pays", "(II)I"⟩
noncomputable abbrev cX9_costOf : ByteArray := prog_11_method_61_code
noncomputable def yX9_costOf : MethodName := ⟨RX9, "costOf", "(III)I"⟩
noncomputable abbrev cX9_valueBy : ByteArray := prog_11_method_62_code
noncomputable def yX9_valueBy : MethodName := ⟨RX9, "valueBy", "(III)I"⟩
noncomputable abbrev cX9_layValues : ByteArray := prog_11_method_63_code
noncomputable def yX9_layValues : MethodName := ⟨RX9, "layValues", "(II)V"⟩
noncomputable abbrev cX9_toRow : ByteArray := prog_11_method_64_code
noncomputable def yX9_toRow : MethodName := ⟨RX9, "toRow", "(II)V"⟩
noncomputable abbrev cX9_soonest : ByteArray := prog_11_method_65_code
noncomputable def yX9_soonest : MethodName := ⟨RX9, "soonest", "(II)I"⟩
noncomputable abbrev cX9_reachIn : ByteArray := prog_11_method_66_code
noncomputable def yX9_reachIn : MethodName := ⟨RX9, "reachIn", "(I)I"⟩
noncomputable abbrev cX9_layWays : ByteArray := prog_11_method_67_code
noncomputable def yX9_layWays : MethodName := ⟨RX9, "layWays", "(II)V"⟩
noncomputable abbrev cX9_firstRow : ByteArray := prog_11_method_68_code
noncomputable def yX9_firstRow : MethodName := ⟨RX9, "firstRow", "(II)V"⟩
noncomputable abbrev cX9_polite : ByteArray := prog_11_method_69_code
noncomputable def yX9_polite : MethodName := ⟨RX9, "polite", "(III)I"⟩
noncomputable abbrev cX9_tellParts : ByteArray := prog_11_method_70_code
noncomputable def yX9_tellParts : MethodName := ⟨RX9, "tellParts", "(JJ)I"⟩
noncomputable abbrev cX9_ways : ByteArray := prog_11_method_71_code
noncomputable def yX9_ways : MethodName := ⟨RX9, "ways", "(II)I"⟩
noncomputable abbrev cX9_reach : ByteArray := prog_11_method_72_code
noncomputable def yX9_reach : MethodName := ⟨RX9, "reach", "(I)I"⟩
noncomputable abbrev cX9_least : ByteArray := prog_11_method_73_code
noncomputable def yX9_least : MethodName := ⟨RX9, "least", "(III)I"⟩
noncomputable abbrev cX9_most : ByteArray := prog_11_method_74_code
noncomputable def yX9_most : MethodName := ⟨RX9, "most", "(II)I"⟩
noncomputable abbrev cX9_now : ByteArray := prog_11_method_75_code
noncomputable def yX9_now : MethodName := ⟨RX9, "now", "()I"⟩
noncomputable abbrev cX9_layChances : ByteArray := prog_11_method_76_code
noncomputable def yX9_layChances : MethodName := ⟨RX9, "layChances", "(III)V"⟩
noncomputable abbrev cX9_sixteen : ByteArray := prog_11_method_77_code
noncomputable def yX9_sixteen : MethodName := ⟨RX9, "sixteen", "(I)J"⟩
noncomputable abbrev cX9_odds : ByteArray := prog_11_method_78_code
noncomputable def yX9_odds : MethodName := ⟨RX9, "odds", "(II)I"⟩
noncomputable abbrev cX9_met : ByteArray := prog_11_method_79_code
noncomputable def yX9_met : MethodName := ⟨RX9, "met", "(II)I"⟩
noncomputable abbrev cX9_hedge : ByteArray := prog_11_method_80_code
noncomputable def yX9_hedge : MethodName := ⟨RX9, "hedge", "(II)I"⟩
noncomputable abbrev cX9_gameBy : ByteArray := prog_11_method_81_code
noncomputable def yX9_gameBy : MethodName := ⟨RX9, "gameBy", "(IIII)I"⟩
noncomputable abbrev cX9_answerTo : ByteArray := prog_11_method_82_code
noncomputable def yX9_answerTo : MethodName := ⟨RX9, "answerTo", "(III)I"⟩
noncomputable abbrev cX9_valueOf : ByteArray := prog_11_method_83_code
noncomputable def yX9_valueOf : MethodName := ⟨RX9, "valueOf", "(III)I"⟩
noncomputable abbrev cX9_firstTo : ByteArray := prog_11_method_84_code
noncomputable def yX9_firstTo : MethodName := ⟨RX9, "firstTo", "(II)I"⟩
noncomputable abbrev cX9_layGames : ByteArray := prog_11_method_85_code
noncomputable def yX9_layGames : MethodName := ⟨RX9, "layGames", "(II)V"⟩
noncomputable abbrev cX9_isGame : ByteArray := prog_11_method_86_code
noncomputable def yX9_isGame : MethodName := ⟨RX9, "isGame", "(III)Z"⟩
noncomputable abbrev cX9_game : ByteArray := prog_11_method_87_code
noncomputable def yX9_game : MethodName := ⟨RX9, "game", "(II)I"⟩
noncomputable abbrev cX9_said : ByteArray := prog_11_method_88_code
noncomputable def yX9_said : MethodName := ⟨RX9, "said", "(II)I"⟩
noncomputable abbrev cX9_calm : ByteArray := prog_11_method_89_code
noncomputable def yX9_calm : MethodName := ⟨RX9, "calm", "(II)I"⟩
noncomputable abbrev cX9_law : ByteArray := prog_11_method_90_code
noncomputable def yX9_law : MethodName := ⟨RX9, "law", "(II)I"⟩
noncomputable abbrev cX9_broughtTo : ByteArray := prog_11_method_91_code
noncomputable def yX9_broughtTo : MethodName := ⟨RX9, "broughtTo", "(II)I"⟩
noncomputable abbrev cX9_areBooks : ByteArray := prog_11_method_92_code
noncomputable def yX9_areBooks : MethodName := ⟨RX9, "areBooks", "(I)Z"⟩
noncomputable abbrev cX9_books : ByteArray := prog_11_method_93_code
noncomputable def yX9_books : MethodName := ⟨RX9, "books", "(I)I"⟩
noncomputable abbrev cX9_kinds : ByteArray := prog_11_method_94_code
noncomputable def yX9_kinds : MethodName := ⟨RX9, "kinds", "(I)I"⟩
noncomputable abbrev cX9_lots : ByteArray := prog_11_method_95_code
noncomputable def yX9_lots : MethodName := ⟨RX9, "lots", "(II)I"⟩
noncomputable abbrev cX9_asked : ByteArray := prog_11_method_96_code
noncomputable def yX9_asked : MethodName := ⟨RX9, "asked", "()I"⟩
noncomputable abbrev cX9_upper : ByteArray := prog_11_method_97_code
noncomputable def yX9_upper : MethodName := ⟨RX9, "upper", "()J"⟩
noncomputable abbrev cX9_lower : ByteArray := prog_11_method_98_code
noncomputable def yX9_lower : MethodName := ⟨RX9, "lower", "()J"⟩
noncomputable abbrev cX9_kindMany : ByteArray := prog_11_method_99_code
noncomputable def yX9_kindMany : MethodName := ⟨RX9, "kindMany", "(I)I"⟩
noncomputable abbrev cX9_thereOf : ByteArray := prog_11_method_100_code
noncomputable def yX9_thereOf : MethodName := ⟨RX9, "thereOf", "(I)I"⟩
noncomputable abbrev cX9_countOf : ByteArray := prog_11_method_101_code
noncomputable def yX9_countOf : MethodName := ⟨RX9, "countOf", "(I)I"⟩
noncomputable abbrev cX9_count : ByteArray := prog_11_method_102_code
noncomputable def yX9_count : MethodName := ⟨RX9, "count", "(I)I"⟩
noncomputable abbrev cX9_finding : ByteArray := prog_11_method_103_code
noncomputable def yX9_finding : MethodName := ⟨RX9, "finding", "()I"⟩
noncomputable abbrev cX9_findings : ByteArray := prog_11_method_104_code
noncomputable def yX9_findings : MethodName := ⟨RX9, "findings", "(I)I"⟩
noncomputable abbrev cX9_digest : ByteArray := prog_11_method_105_code
noncomputable def yX9_digest : MethodName := ⟨RX9, "digest", "()J"⟩
noncomputable def RJ6 : String := "java/lang/Integer"
noncomputable abbrev cJ6_compare_7cf53 : ByteArray := prog_12_method_40_code
noncomputable def yJ6_compare_7cf53 : MethodName := ⟨RJ6, "compare", "(II)I"⟩
noncomputable def RJ9 : String := "java/lang/Math"
noncomputable abbrev cJ9_abs_0f7a4 : ByteArray := prog_13_method_59_code
noncomputable def yJ9_abs_0f7a4 : MethodName := ⟨RJ9, "abs", "(I)I"⟩
noncomputable abbrev cJ9_max_7cf53 : ByteArray := prog_13_method_65_code
noncomputable def yJ9_max_7cf53 : MethodName := ⟨RJ9, "max", "(II)I"⟩
noncomputable abbrev cJ9_min_7cf53 : ByteArray := prog_13_method_69_code
noncomputable def yJ9_min_7cf53 : MethodName := ⟨RJ9, "min", "(II)I"⟩
noncomputable def RJ10 : String := "java/lang/System"
noncomputable def RJ7 : String := "java/util/Arrays"
noncomputable abbrev cJ7_fill_d0a16 : ByteArray := prog_15_method_101_code
noncomputable def yJ7_fill_d0a16 : MethodName := ⟨RJ7, "fill", "([JJ)V"⟩
noncomputable abbrev cJ7_fill_53178 : ByteArray := prog_15_method_103_code
noncomputable def yJ7_fill_53178 : MethodName := ⟨RJ7, "fill", "([II)V"⟩
noncomputable def RL : String := "PaceBorderLaw"
noncomputable abbrev cL_law : ByteArray := code
noncomputable def yL_law : MethodName := ⟨RL, "law", "([I)Z"⟩
noncomputable abbrev vwCl : List vw_C := [(RX0, TX0, 4), (RX1, TX1, 8), (RX2, TX2, 3), (RX3, TX3, 4), (RX4, TX4, 7), (RX5, TX5, 7), (RX6, TX6, 5), (RX7, TX7, 5), (RX8, TX8, 16), (RX9, TX9, 31)]
theorem am_in1 {w : Cond} (h : w ∈ tables_1_1) : w ∈ lw_tbl := List.mem_append_right _ (tq_1 h)
theorem am_in2 {w : Cond} (h : w ∈ tables_1_2) : w ∈ lw_tbl := List.mem_append_right _ (tq_2 h)
theorem am_in3 {w : Cond} (h : w ∈ tables_1_3) : w ∈ lw_tbl := List.mem_append_right _ (tq_3 h)
theorem am_in4 {w : Cond} (h : w ∈ tables_1_4) : w ∈ lw_tbl := List.mem_append_right _ (tq_4 h)
theorem am_in5 {w : Cond} (h : w ∈ tables_1_5) : w ∈ lw_tbl := List.mem_append_right _ (tq_5 h)
theorem am_in6 {w : Cond} (h : w ∈ tables_1_6) : w ∈ lw_tbl := List.mem_append_right _ (tq_6 h)
theorem am_in7 {w : Cond} (h : w ∈ tables_1_7) : w ∈ lw_tbl := List.mem_append_right _ (tq_7 h)
theorem inX0 : ∀ w ∈ wsX00, w ∈ lw_tbl := by
  show ∀ w ∈ ([u_lay RX0 TX0 0, u_lay RX0 TX0 1, u_lay RX0 TX0 2, u_lay RX0 TX0 3] : List Cond), w ∈ lw_tbl
  exact List.forall_mem_cons.mpr ⟨List.mem_append_right _ (tq_1 (List.mem_of_getElem? (i := 191) rfl)), List.forall_mem_cons.mpr ⟨List.mem_append_right _ (tq_1 (List.mem_of_getElem? (i := 193) rfl)), List.forall_mem_cons.mpr ⟨List.mem_append_right _ (tq_1 (List.mem_of_getElem? (i := 195) rfl)), List.forall_mem_cons.mpr ⟨List.mem_append_right _ (tq_1 (List.mem_of_getElem? (i := 197) rfl)), fun _ h => absurd h List.not_mem_nil⟩⟩⟩⟩
theorem inX1 : ∀ w ∈ wsX10, w ∈ lw_tbl := by
  show ∀ w ∈ ([u_lay RX1 TX1 0, u_lay RX1 TX1 1, u_lay RX1 TX1 2, u_lay RX1 TX1 3, u_lay RX1 TX1 4, u_lay RX1 TX1 5, u_lay RX1 TX1 6, u_lay RX1 TX1 7] : List Cond), w ∈ lw_tbl
  exact List.forall_mem_cons.mpr ⟨List.mem_append_right _ (tq_1 (List.mem_of_getElem? (i := 133) rfl)), List.forall_mem_cons.mpr ⟨List.mem_append_right _ (tq_1 (List.mem_of_getElem? (i := 135) rfl)), List.forall_mem_cons.mpr ⟨List.mem_append_right _ (tq_1 (List.mem_of_getElem? (i := 137) rfl)), List.forall_mem_cons.mpr ⟨List.mem_append_right _ (tq_1 (List.mem_of_getElem? (i := 139) rfl)), List.forall_mem_cons.mpr ⟨List.mem_append_right _ (tq_1 (List.mem_of_getElem? (i := 141) rfl)), List.forall_mem_cons.mpr ⟨List.mem_append_right _ (tq_1 (List.mem_of_getElem? (i := 143) rfl)), List.forall_mem_cons.mpr ⟨List.mem_append_right _ (tq_1 (List.mem_of_getElem? (i := 145) rfl)), List.forall_mem_cons.mpr ⟨List.mem_append_right _ (tq_1 (List.mem_of_getElem? (i := 147) rfl)), fun _ h => absurd h List.not_mem_nil⟩⟩⟩⟩⟩⟩⟩⟩
theorem inX2 : ∀ w ∈ wsX20, w ∈ lw_tbl := by
  show ∀ w ∈ ([u_lay RX2 TX2 0, u_lay RX2 TX2 1, u_lay RX2 TX2 2] : List Cond), w ∈ lw_tbl
  exact List.forall_mem_cons.mpr ⟨List.mem_append_right _ (tq_1 (List.mem_of_getElem? (i := 74) rfl)), List.forall_mem_cons.mpr ⟨List.mem_append_right _ (tq_1 (List.mem_of_getElem? (i := 76) rfl)), List.forall_mem_cons.mpr ⟨List.mem_append_right _ (tq_1 (List.mem_of_getElem? (i := 78) rfl)), fun _ h => absurd h List.not_mem_nil⟩⟩⟩
theorem inX3 : ∀ w ∈ wsX30, w ∈ lw_tbl := by
  show ∀ w ∈ ([u_lay RX3 TX3 0, u_lay RX3 TX3 1, u_lay RX3 TX3 2, u_lay RX3 TX3 3] : List Cond), w ∈ lw_tbl
  exact List.forall_mem_cons.mpr ⟨List.mem_append_right _ (tq_1 (List.mem_of_getElem? (i := 234) rfl)), List.forall_mem_cons.mpr ⟨List.mem_append_right _ (tq_1 (List.mem_of_getElem? (i := 236) rfl)), List.forall_mem_cons.mpr ⟨List.mem_append_right _ (tq_1 (List.mem_of_getElem? (i := 238) rfl)), List.forall_mem_cons.mpr ⟨List.mem_append_right _ (tq_2 (List.mem_of_getElem? (i := 0) rfl)), fun _ h => absurd h List.not_mem_nil⟩⟩⟩⟩
theorem inX4 : ∀ w ∈ wsX40, w ∈ lw_tbl := by
  show ∀ w ∈ ([u_lay RX4 TX4 0, u_lay RX4 TX4 1, u_lay RX4 TX4 2, u_lay RX4 TX4 3, u_lay RX4 TX4 4, u_lay RX4 TX4 5, u_lay RX4 TX4 6] : List Cond), w ∈ lw_tbl
  exact List.forall_mem_cons.mpr ⟨List.mem_append_right _ (tq_1 (List.mem_of_getElem? (i := 165) rfl)), List.forall_mem_cons.mpr ⟨List.mem_append_right _ (tq_1 (List.mem_of_getElem? (i := 167) rfl)), List.forall_mem_cons.mpr ⟨List.mem_append_right _ (tq_1 (List.mem_of_getElem? (i := 169) rfl)), List.forall_mem_cons.mpr ⟨List.mem_append_right _ (tq_1 (List.mem_of_getElem? (i := 171) rfl)), List.forall_mem_cons.mpr ⟨List.mem_append_right _ (tq_1 (List.mem_of_getElem? (i := 173) rfl)), List.forall_mem_cons.mpr ⟨List.mem_append_right _ (tq_1 (List.mem_of_getElem? (i := 175) rfl)), List.forall_mem_cons.mpr ⟨List.mem_append_right _ (tq_1 (List.mem_of_getElem? (i := 177) rfl)), fun _ h => absurd h List.not_mem_nil⟩⟩⟩⟩⟩⟩⟩
theorem inX5 : ∀ w ∈ wsX50, w ∈ lw_tbl := by
  show ∀ w ∈ ([u_lay RX5 TX5 0, u_lay RX5 TX5 1, u_lay RX5 TX5 2, u_lay RX5 TX5 3, u_lay RX5 TX5 4, u_lay RX5 TX5 5, u_lay RX5 TX5 6] : List Cond), w ∈ lw_tbl
  exact List.forall_mem_cons.mpr ⟨List.mem_append_right _ (tq_1 (List.mem_of_getElem? (i := 92) rfl)), List.forall_mem_cons.mpr ⟨List.mem_append_right _ (tq_1 (List.mem_of_getElem? (i := 94) rfl)), List.forall_mem_cons.mpr ⟨List.mem_append_right _ (tq_1 (List.mem_of_getElem? (i := 96) rfl)), List.forall_mem_cons.mpr ⟨List.mem_append_right _ (tq_1 (List.mem_of_getElem? (i := 98) rfl)), List.forall_mem_cons.mpr ⟨List.mem_append_right _ (tq_1 (List.mem_of_getElem? (i := 100) rfl)), List.forall_mem_cons.mpr ⟨List.mem_append_right _ (tq_1 (List.mem_of_getElem? (i := 102) rfl)), List.forall_mem_cons.mpr ⟨List.mem_append_right _ (tq_1 (List.mem_of_getElem? (i := 104) rfl)), fun _ h => absurd h List.not_mem_nil⟩⟩⟩⟩⟩⟩⟩
theorem inX6 : ∀ w ∈ wsX60, w ∈ lw_tbl := by
  show ∀ w ∈ ([u_lay RX6 TX6 0, u_lay RX6 TX6 1, u_lay RX6 TX6 2, u_lay RX6 TX6 3, u_lay RX6 TX6 4] : List Cond), w ∈ lw_tbl
  exact List.forall_mem_cons.mpr ⟨List.mem_append_right _ (tq_1 (List.mem_of_getElem? (i := 40) rfl)), List.forall_mem_cons.mpr ⟨List.mem_append_right _ (tq_1 (List.mem_of_getElem? (i := 42) rfl)), List.forall_mem_cons.mpr ⟨List.mem_append_right _ (tq_1 (List.mem_of_getElem? (i := 44) rfl)), List.forall_mem_cons.mpr ⟨List.mem_append_right _ (tq_1 (List.mem_of_getElem? (i := 46) rfl)), List.forall_mem_cons.mpr ⟨List.mem_append_right _ (tq_1 (List.mem_of_getElem? (i := 48) rfl)), fun _ h => absurd h List.not_mem_nil⟩⟩⟩⟩⟩
theorem inX7 : ∀ w ∈ wsX70, w ∈ lw_tbl := by
  show ∀ w ∈ ([u_lay RX7 TX7 0, u_lay RX7 TX7 1, u_lay RX7 TX7 2, u_lay RX7 TX7 3, u_lay RX7 TX7 4] : List Cond), w ∈ lw_tbl
  exact List.forall_mem_cons.mpr ⟨List.mem_append_right _ (tq_1 (List.mem_of_getElem? (i := 211) rfl)), List.forall_mem_cons.mpr ⟨List.mem_append_right _ (tq_1 (List.mem_of_getElem? (i := 213) rfl)), List.forall_mem_cons.mpr ⟨List.mem_append_right _ (tq_1 (List.mem_of_getElem? (i := 215) rfl)), List.forall_mem_cons.mpr ⟨List.mem_append_right _ (tq_1 (List.mem_of_getElem? (i := 217) rfl)), List.forall_mem_cons.mpr ⟨List.mem_append_right _ (tq_1 (List.mem_of_getElem? (i := 219) rfl)), fun _ h => absurd h List.not_mem_nil⟩⟩⟩⟩⟩
theorem inX8 : ∀ w ∈ wsX80, w ∈ lw_tbl := by
  show ∀ w ∈ ([u_lay RX8 TX8 0, u_lay RX8 TX8 1, u_lay RX8 TX8 2, u_lay RX8 TX8 3, u_lay RX8 TX8 4, u_lay RX8 TX8 5, u_lay RX8 TX8 6, u_lay RX8 TX8 7, u_lay RX8 TX8 8, u_lay RX8 TX8 9, u_lay RX8 TX8 10, u_lay RX8 TX8 11, u_lay RX8 TX8 12, u_lay RX8 TX8 13, u_lay RX8 TX8 14, u_lay RX8 TX8 15] : List Cond), w ∈ lw_tbl
  exact List.forall_mem_cons.mpr ⟨List.mem_append_right _ (tq_2 (List.mem_of_getElem? (i := 19) rfl)), List.forall_mem_cons.mpr ⟨List.mem_append_right _ (tq_2 (List.mem_of_getElem? (i := 21) rfl)), List.forall_mem_cons.mpr ⟨List.mem_append_right _ (tq_2 (List.mem_of_getElem? (i := 23) rfl)), List.forall_mem_cons.mpr ⟨List.mem_append_right _ (tq_2 (List.mem_of_getElem? (i := 25) rfl)), List.forall_mem_cons.mpr ⟨List.mem_append_right _ (tq_2 (List.mem_of_getElem? (i := 27) rfl)), List.forall_mem_cons.mpr ⟨List.mem_append_right _ (tq_2 (List.mem_of_getElem? (i := 29) rfl)), List.forall_mem_cons.mpr ⟨List.mem_append_right _ (tq_2 (List.mem_of_getElem? (i := 31) rfl)), List.forall_mem_cons.mpr ⟨List.mem_append_right _ (tq_2 (List.mem_of_getElem? (i := 33) rfl)), List.forall_mem_cons.mpr ⟨List.mem_append_right _ (tq_2 (List.mem_of_getElem? (i := 35) rfl)), List.forall_mem_cons.mpr ⟨List.mem_append_right _ (tq_2 (List.mem_of_getElem? (i := 37) rfl)), List.forall_mem_cons.mpr ⟨List.mem_append_right _ (tq_2 (List.mem_of_getElem? (i := 39) rfl)), List.forall_mem_cons.mpr ⟨List.mem_append_right _ (tq_2 (List.mem_of_getElem? (i := 41) rfl)), List.forall_mem_cons.mpr ⟨List.mem_append_right _ (tq_2 (List.mem_of_getElem? (i := 43) rfl)), List.forall_mem_cons.mpr ⟨List.mem_append_right _ (tq_2 (List.mem_of_getElem? (i := 45) rfl)), List.forall_mem_cons.mpr ⟨List.mem_append_right _ (tq_2 (List.mem_of_getElem? (i := 47) rfl)), List.forall_mem_cons.mpr ⟨List.mem_append_right _ (tq_2 (List.mem_of_getElem? (i := 49) rfl)), fun _ h => absurd h List.not_mem_nil⟩⟩⟩⟩⟩⟩⟩⟩⟩⟩⟩⟩⟩⟩⟩⟩
theorem inX9 : ∀ w ∈ wsX90, w ∈ lw_tbl := by
  show ∀ w ∈ ([u_lay RX9 TX9 0, u_lay RX9 TX9 1, u_lay RX9 TX9 2, u_lay RX9 TX9 3, u_lay RX9 TX9 4, u_lay RX9 TX9 5, u_lay RX9 TX9 6, u_lay RX9 TX9 7, u_lay RX9 TX9 8, u_lay RX9 TX9 9, u_lay RX9 TX9 10, u_lay RX9 TX9 11, u_lay RX9 TX9 12, u_lay RX9 TX9 13, u_lay RX9 TX9 14, u_lay RX9 TX9 15, u_lay RX9 TX9 16, u_lay RX9 TX9 17, u_lay RX9 TX9 18, u_lay RX9 TX9 19, u_lay RX9 TX9 20, u_lay RX9 TX9 21, u_lay RX9 TX9 22, u_lay RX9 TX9 23, u_lay RX9 TX9 24, u_lay RX9 TX9 25, u_lay RX9 TX9 26, u_lay RX9 TX9 27, u_lay RX9 TX9 28, u_lay RX9 TX9 29, u_lay RX9 TX9 30] : List Cond), w ∈ lw_tbl
  exact List.forall_mem_cons.mpr ⟨List.mem_append_right _ (tq_5 (List.mem_of_getElem? (i := 59) rfl)), List.forall_mem_cons.mpr ⟨List.mem_append_right _ (tq_5 (List.mem_of_getElem? (i := 61) rfl)), List.forall_mem_cons.mpr ⟨List.mem_append_right _ (tq_5 (List.mem_of_getElem? (i := 63) rfl)), List.forall_mem_cons.mpr ⟨List.mem_append_right _ (tq_5 (List.mem_of_getElem? (i := 65) rfl)), List.forall_mem_cons.mpr ⟨List.mem_append_right _ (tq_5 (List.mem_of_getElem? (i := 67) rfl)), List.forall_mem_cons.mpr ⟨List.mem_append_right _ (tq_5 (List.mem_of_getElem? (i := 69) rfl)), List.forall_mem_cons.mpr ⟨List.mem_append_right _ (tq_5 (List.mem_of_getElem? (i := 71) rfl)), List.forall_mem_cons.mpr ⟨List.mem_append_right _ (tq_5 (List.mem_of_getElem? (i := 73) rfl)), List.forall_mem_cons.mpr ⟨List.mem_append_right _ (tq_5 (List.mem_of_getElem? (i := 75) rfl)), List.forall_mem_cons.mpr ⟨List.mem_append_right _ (tq_5 (List.mem_of_getElem? (i := 77) rfl)), List.forall_mem_cons.mpr ⟨List.mem_append_right _ (tq_5 (List.mem_of_getElem? (i := 79) rfl)), List.forall_mem_cons.mpr ⟨List.mem_append_right _ (tq_5 (List.mem_of_getElem? (i := 81) rfl)), List.forall_mem_cons.mpr ⟨List.mem_append_right _ (tq_5 (List.mem_of_getElem? (i := 83) rfl)), List.forall_mem_cons.mpr ⟨List.mem_append_right _ (tq_5 (List.mem_of_getElem? (i := 85) rfl)), List.forall_mem_cons.mpr ⟨List.mem_append_right _ (tq_5 (List.mem_of_getElem? (i := 87) rfl)), List.forall_mem_cons.mpr ⟨List.mem_append_right _ (tq_5 (List.mem_of_getElem? (i := 89) rfl)), List.forall_mem_cons.mpr ⟨List.mem_append_right _ (tq_5 (List.mem_of_getElem? (i := 91) rfl)), List.forall_mem_cons.mpr ⟨List.mem_append_right _ (tq_5 (List.mem_of_getElem? (i := 93) rfl)), List.forall_mem_cons.mpr ⟨List.mem_append_right _ (tq_5 (List.mem_of_getElem? (i := 95) rfl)), List.forall_mem_cons.mpr ⟨List.mem_append_right _ (tq_5 (List.mem_of_getElem? (i := 97) rfl)), List.forall_mem_cons.mpr ⟨List.mem_append_right _ (tq_5 (List.mem_of_getElem? (i := 99) rfl)), List.forall_mem_cons.mpr ⟨List.mem_append_right _ (tq_5 (List.mem_of_getElem? (i := 101) rfl)), List.forall_mem_cons.mpr ⟨List.mem_append_right _ (tq_5 (List.mem_of_getElem? (i := 103) rfl)), List.forall_mem_cons.mpr ⟨List.mem_append_right _ (tq_5 (List.mem_of_getElem? (i := 105) rfl)), List.forall_mem_cons.mpr ⟨List.mem_append_right _ (tq_5 (List.mem_of_getElem? (i := 107) rfl)), List.forall_mem_cons.mpr ⟨List.mem_append_right _ (tq_5 (List.mem_of_getElem? (i := 109) rfl)), List.forall_mem_cons.mpr ⟨List.mem_append_right _ (tq_5 (List.mem_of_getElem? (i := 111) rfl)), List.forall_mem_cons.mpr ⟨List.mem_append_right _ (tq_5 (List.mem_of_getElem? (i := 113) rfl)), List.forall_mem_cons.mpr ⟨List.mem_append_right _ (tq_5 (List.mem_of_getElem? (i := 115) rfl)), List.forall_mem_cons.mpr ⟨List.mem_append_right _ (tq_5 (List.mem_of_getElem? (i := 117) rfl)), List.forall_mem_cons.mpr ⟨List.mem_append_right _ (tq_5 (List.mem_of_getElem? (i := 119) rfl)), fun _ h => absurd h List.not_mem_nil⟩⟩⟩⟩⟩⟩⟩⟩⟩⟩⟩⟩⟩⟩⟩⟩⟩⟩⟩⟩⟩⟩⟩⟩⟩⟩⟩⟩⟩⟩⟩
