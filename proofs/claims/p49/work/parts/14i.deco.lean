section
noncomputable def F_X9_polite_53 : Nat → List am_V → am_M → am_Rs := fun k as M => if k = 168 then (match as with
  | [.inr (.inl a0), .inr (.inl a2), .inr (.inl a4)] => X_X9_in a0 a2 a4 M
  | _ => none) else if k = 172 then (match as with
  | [.inl a0] => X_X9_isRow a0 M
  | _ => none) else if k = 217 then (match as with
  | [.inr (.inr (some 53)), .inl a1] => X_X9_isPlace_53 a1 M
  | _ => none) else if k = 229 then (match as with
  | [.inr (.inr (some 53)), .inl a1, .inl a2] => X_X9_layValues_53 a1 a2 M
  | _ => none) else if k = 230 then (match as with
  | [.inr (.inr (some 53)), .inl a1, .inl a2] => X_X9_toRow_53 a1 a2 M
  | _ => none) else none
theorem fs_X9_polite_53 : am_FS SH F_X9_polite_53 := by
  intro k as M x M' h
  unfold F_X9_polite_53 at h
  split at h
  · rename_i hk; subst hk
    split at h
    · exact dc_X9_in _ _ _ _ _ _ h
    · cases h
  split at h
  · rename_i hk; subst hk
    split at h
    · exact dc_X9_isRow _ _ _ _ h
    · cases h
  split at h
  · rename_i hk; subst hk
    split at h
    · exact dc_X9_isPlace_53 _ _ _ _ h
    · cases h
  split at h
  · rename_i hk; subst hk
    split at h
    · exact dc_X9_layValues_53 _ _ _ _ _ h
    · cases h
  split at h
  · rename_i hk; subst hk
    split at h
    · exact dc_X9_toRow_53 _ _ _ _ _ h
    · cases h
  cases h
noncomputable def X_X9_polite_53 (v1 v2 v3 : Int) (M : am_M) : am_Rs :=
  (X_X9_isPlace_53 v1 M).bind fun z1 =>
  if wI z1.1 = 0 then
   some ((-1), z1.2)
  else (X_X9_in (wI v2) 0 20 z1.2).bind fun z2 =>
  if wI z2.1 = 0 then
   some ((-1), z2.2)
  else (X_X9_isRow v3 z2.2).bind fun z3 =>
  if wI z3.1 = 0 then
   some ((-1), z3.2)
  else if wI (z3.2 53 1) = 0 then
   some ((-4), z3.2)
  else (X_X9_layValues_53 v2 v1 (am_up z3.2 53 22 0)).bind fun z4 =>
  if 0 ≤ wI (z4.2 54 1) ∧ wI (z4.2 54 1) < 273 then
  if wI (z4.2 64 (wI (z4.2 54 1)).toNat) < 1048576 then
    (X_X9_toRow_53 v3 v2 z4.2).bind fun z5 =>
    some (z4.2 64 (wI (z4.2 54 1)).toNat, z5.2)
   else some ((-9), z4.2)
  else none
set_option maxRecDepth 100000 in
theorem dc_X9_polite_53 (v1 v2 v3 : Int) (M M' : am_M) (x : Int) (h : X_X9_polite_53 v1 v2 v3 M = some (x, M')) : am_Calls 235 [.inr (.inr (some 53)), .inl v1, .inl v2, .inl v3] SH M (am_rv (am_rk 235) x) SH M' :=
  vCall (F := F_X9_polite_53) (C := fun _ _ _ _ => none) (fu := 11) ok_X9_polite pn_X9_polite ml_X9_polite rfl (Nat.le_of_ble_eq_true rfl) fs_X9_polite_53 (fun _ _ _ _ h => by cases h) h
noncomputable def F_X9_ways_53 : Nat → List am_V → am_M → am_Rs := fun k as M => if k = 168 then (match as with
  | [.inr (.inl a0), .inr (.inl a2), .inr (.inl a4)] => X_X9_in a0 a2 a4 M
  | _ => none) else if k = 217 then (match as with
  | [.inr (.inr (some 53)), .inl a1] => X_X9_isPlace_53 a1 M
  | _ => none) else if k = 233 then (match as with
  | [.inr (.inr (some 53)), .inl a1, .inl a2] => X_X9_layWays_53 a1 a2 M
  | _ => none) else none
theorem fs_X9_ways_53 : am_FS SH F_X9_ways_53 := by
  intro k as M x M' h
  unfold F_X9_ways_53 at h
  split at h
  · rename_i hk; subst hk
    split at h
    · exact dc_X9_in _ _ _ _ _ _ h
    · cases h
  split at h
  · rename_i hk; subst hk
    split at h
    · exact dc_X9_isPlace_53 _ _ _ _ h
    · cases h
  split at h
  · rename_i hk; subst hk
    split at h
    · exact dc_X9_layWays_53 _ _ _ _ _ h
    · cases h
  cases h
noncomputable def X_X9_ways_53 (v1 v2 : Int) (M : am_M) : am_Rs :=
  (X_X9_isPlace_53 v1 M).bind fun z1 =>
  if wI z1.1 = 0 then
   some ((-1), z1.2)
  else (X_X9_in (wI v2) 0 20 z1.2).bind fun z2 =>
  if wI z2.1 = 0 then
   some ((-1), z2.2)
  else if wI (z2.2 53 1) = 0 then
   some ((-4), z2.2)
  else (X_X9_layWays_53 v2 v1 z2.2).bind fun z3 =>
  if 0 ≤ wI (z3.2 54 1) ∧ wI (z3.2 54 1) < 273 then
  some (1, (am_up (am_up z3.2 53 9 (z3.2 65 (wI (z3.2 54 1)).toNat)) 53 10 1))
  else none
set_option maxRecDepth 100000 in
theorem dc_X9_ways_53 (v1 v2 : Int) (M M' : am_M) (x : Int) (h : X_X9_ways_53 v1 v2 M = some (x, M')) : am_Calls 237 [.inr (.inr (some 53)), .inl v1, .inl v2] SH M (am_rv (am_rk 237) x) SH M' :=
  vCall (F := F_X9_ways_53) (C := fun _ _ _ _ => none) (fu := 8) ok_X9_ways pn_X9_ways ml_X9_ways rfl (Nat.le_of_ble_eq_true rfl) fs_X9_ways_53 (fun _ _ _ _ h => by cases h) h
noncomputable def F_X9_reach_53 : Nat → List am_V → am_M → am_Rs := fun k as M => if k = 168 then (match as with
  | [.inr (.inl a0), .inr (.inl a2), .inr (.inl a4)] => X_X9_in a0 a2 a4 M
  | _ => none) else if k = 232 then (match as with
  | [.inr (.inr (some 53)), .inl a1] => X_X9_reachIn_53 a1 M
  | _ => none) else none
theorem fs_X9_reach_53 : am_FS SH F_X9_reach_53 := by
  intro k as M x M' h
  unfold F_X9_reach_53 at h
  split at h
  · rename_i hk; subst hk
    split at h
    · exact dc_X9_in _ _ _ _ _ _ h
    · cases h
  split at h
  · rename_i hk; subst hk
    split at h
    · exact dc_X9_reachIn_53 _ _ _ _ h
    · cases h
  cases h
noncomputable def X_X9_reach_53 (v1 : Int) (M : am_M) : am_Rs :=
  (X_X9_in (wI v1) 0 20 M).bind fun z1 =>
  if wI z1.1 = 0 then
   some ((-1), z1.2)
  else if wI (z1.2 53 1) = 0 then
   some ((-4), z1.2)
  else (X_X9_reachIn_53 v1 z1.2).bind fun z2 =>
  some (z2.1, z2.2)
set_option maxRecDepth 100000 in
theorem dc_X9_reach_53 (v1 : Int) (M M' : am_M) (x : Int) (h : X_X9_reach_53 v1 M = some (x, M')) : am_Calls 238 [.inr (.inr (some 53)), .inl v1] SH M (am_rv (am_rk 238) x) SH M' :=
  vCall (F := F_X9_reach_53) (C := fun _ _ _ _ => none) (fu := 8) ok_X9_reach pn_X9_reach ml_X9_reach rfl (Nat.le_of_ble_eq_true rfl) fs_X9_reach_53 (fun _ _ _ _ h => by cases h) h
noncomputable def F_X9_least_53 : Nat → List am_V → am_M → am_Rs := fun k as M => if k = 168 then (match as with
  | [.inr (.inl a0), .inr (.inl a2), .inr (.inl a4)] => X_X9_in a0 a2 a4 M
  | _ => none) else if k = 172 then (match as with
  | [.inl a0] => X_X9_isRow a0 M
  | _ => none) else if k = 194 then (match as with
  | [.inr (.inr (some 53)), .inl a1] => X_X9_isStrip_53 a1 M
  | _ => none) else if k = 229 then (match as with
  | [.inr (.inr (some 53)), .inl a1, .inl a2] => X_X9_layValues_53 a1 a2 M
  | _ => none) else if k = 230 then (match as with
  | [.inr (.inr (some 53)), .inl a1, .inl a2] => X_X9_toRow_53 a1 a2 M
  | _ => none) else none
theorem fs_X9_least_53 : am_FS SH F_X9_least_53 := by
  intro k as M x M' h
  unfold F_X9_least_53 at h
  split at h
  · rename_i hk; subst hk
    split at h
    · exact dc_X9_in _ _ _ _ _ _ h
    · cases h
  split at h
  · rename_i hk; subst hk
    split at h
    · exact dc_X9_isRow _ _ _ _ h
    · cases h
  split at h
  · rename_i hk; subst hk
    split at h
    · exact dc_X9_isStrip_53 _ _ _ _ h
    · cases h
  split at h
  · rename_i hk; subst hk
    split at h
    · exact dc_X9_layValues_53 _ _ _ _ _ h
    · cases h
  split at h
  · rename_i hk; subst hk
    split at h
    · exact dc_X9_toRow_53 _ _ _ _ _ h
    · cases h
  cases h
noncomputable def X_X9_least_53 (v1 v2 v3 : Int) (M : am_M) : am_Rs :=
  (X_X9_isStrip_53 v1 M).bind fun z1 =>
  if wI z1.1 = 0 then
   some ((-1), z1.2)
  else (X_X9_in (wI v2) 0 20 z1.2).bind fun z2 =>
  if wI z2.1 = 0 then
   some ((-1), z2.2)
  else (X_X9_isRow v3 z2.2).bind fun z3 =>
  if wI z3.1 = 0 then
   some ((-1), z3.2)
  else (X_X9_layValues_53 v2 (-1) (am_up (am_up z3.2 53 22 1) 53 23 v1)).bind fun z4 =>
  (X_X9_toRow_53 v3 v2 z4.2).bind fun z5 =>
  if 0 ≤ wI (z5.2 54 1) ∧ wI (z5.2 54 1) < 273 then
  some (z5.2 64 (wI (z5.2 54 1)).toNat, z5.2)
  else none
set_option maxRecDepth 100000 in
theorem dc_X9_least_53 (v1 v2 v3 : Int) (M M' : am_M) (x : Int) (h : X_X9_least_53 v1 v2 v3 M = some (x, M')) : am_Calls 239 [.inr (.inr (some 53)), .inl v1, .inl v2, .inl v3] SH M (am_rv (am_rk 239) x) SH M' :=
  vCall (F := F_X9_least_53) (C := fun _ _ _ _ => none) (fu := 7) ok_X9_least pn_X9_least ml_X9_least rfl (Nat.le_of_ble_eq_true rfl) fs_X9_least_53 (fun _ _ _ _ h => by cases h) h
noncomputable def F_X9_most_53 : Nat → List am_V → am_M → am_Rs := fun k as M => if k = 168 then (match as with
  | [.inr (.inl a0), .inr (.inl a2), .inr (.inl a4)] => X_X9_in a0 a2 a4 M
  | _ => none) else if k = 229 then (match as with
  | [.inr (.inr (some 53)), .inl a1, .inl a2] => X_X9_layValues_53 a1 a2 M
  | _ => none) else none
theorem fs_X9_most_53 : am_FS SH F_X9_most_53 := by
  intro k as M x M' h
  unfold F_X9_most_53 at h
  split at h
  · rename_i hk; subst hk
    split at h
    · exact dc_X9_in _ _ _ _ _ _ h
    · cases h
  split at h
  · rename_i hk; subst hk
    split at h
    · exact dc_X9_layValues_53 _ _ _ _ _ h
    · cases h
  cases h
noncomputable def X_X9_most_53 (v1 v2 : Int) (M : am_M) : am_Rs :=
  (X_X9_in (wI v1) 0 1 M).bind fun z1 =>
  if wI z1.1 = 0 then
   some ((-1), z1.2)
  else (X_X9_in (wI v2) 0 20 z1.2).bind fun z2 =>
  if wI z2.1 = 0 then
   some ((-1), z2.2)
  else if wI (z2.2 53 1) = 0 then
   some ((-4), z2.2)
  else (X_X9_layValues_53 v2 (-1) (am_up (am_up z2.2 53 22 2) 53 23 v1)).bind fun z3 =>
  if 0 ≤ wI (z3.2 54 1) ∧ wI (z3.2 54 1) < 273 then
  some (-(z3.2 64 (wI (z3.2 54 1)).toNat), z3.2)
  else none
set_option maxRecDepth 100000 in
theorem dc_X9_most_53 (v1 v2 : Int) (M M' : am_M) (x : Int) (h : X_X9_most_53 v1 v2 M = some (x, M')) : am_Calls 240 [.inr (.inr (some 53)), .inl v1, .inl v2] SH M (am_rv (am_rk 240) x) SH M' :=
  vCall (F := F_X9_most_53) (C := fun _ _ _ _ => none) (fu := 8) ok_X9_most pn_X9_most ml_X9_most rfl (Nat.le_of_ble_eq_true rfl) fs_X9_most_53 (fun _ _ _ _ h => by cases h) h
noncomputable def F_X9_now_53 : Nat → List am_V → am_M → am_Rs := fun k as M => if k = 198 then (match as with
  | [.inr (.inr (some 53)), .inl a1, .inl a2, .inl a3, .inl a4] => X_X9_paysTo_53 a1 a2 a3 a4 M
  | _ => none) else none
theorem fs_X9_now_53 : am_FS SH F_X9_now_53 := by
  intro k as M x M' h
  unfold F_X9_now_53 at h
  split at h
  · rename_i hk; subst hk
    split at h
    · exact dc_X9_paysTo_53 _ _ _ _ _ _ _ h
    · cases h
  cases h
noncomputable def XB_X9_now_53_3 (c3 : Int → Int → am_M → am_Rs) (c5 : Int → am_M → am_Rs) (v1 v2 : Int) (M : am_M) : am_Rs :=
  if wI v2 < wI (M 53 1) then
   (X_X9_paysTo_53 v2 0 (M 54 1) (M 54 2) M).bind fun z1 =>
   (X_X9_paysTo_53 v2 1 (z1.2 54 1) (z1.2 54 3) z1.2).bind fun z2 =>
   c3 (v1 + z1.1) (v2 + 1) (am_up z2.2 53 8 ((z1.2 53 8) + z2.1))
  else c5 v1 M
set_option maxRecDepth 100000 in
theorem rs_X9_now_53_3 {x : Int} {M' : am_M} {c3 : Int → Int → am_M → am_Rs} {c5 : Int → am_M → am_Rs} (h3 : ∀ w1 w2 M, c3 w1 w2 M = some (x, M') → am_R none 241 bk_X9_now 3 (am_wr [56, 1, 1] [w1, w2]) [] SH M (am_rv (am_rk 241) x) SH M') (h5 : ∀ w1 M, c5 w1 M = some (x, M') → am_R none 241 bk_X9_now 5 (am_wr [0, 1, 0] [w1]) [] SH M (am_rv (am_rk 241) x) SH M') (v1 v2 : Int) (M : am_M) (h : XB_X9_now_53_3 c3 c5 v1 v2 M = some (x, M')) : am_R none 241 bk_X9_now 3 (am_wr [56, 1, 1] [v1, v2]) [] SH M (am_rv (am_rk 241) x) SH M' :=
  vRegion (sc := none) (sh := SH) (F := F_X9_now_53) (k := 241) (bs := bk_X9_now) (r := (x, M')) (C := fun t lv st M => if t = 3 then vCt [56, 1, 1] (un2 c3) lv st M else if t = 5 then vCt [0, 1, 0] (un1 c5) lv st M else none) ok_X9_now fs_X9_now_53 (fun t lv st M h => by
    split at h
    · rename_i e; subst e; exact vCt_s (un2_s h3) h
    split at h
    · rename_i e; subst e; exact vCt_s (un1_s h5) h
    cases h) 8 3 (am_wr [56, 1, 1] [v1, v2]) [] M h
noncomputable def XB_X9_now_53_5 (v1 : Int) (M : am_M) : am_Rs :=
  some (v1, M)
set_option maxRecDepth 100000 in
theorem rs_X9_now_53_5 {x : Int} {M' : am_M} (v1 : Int) (M : am_M) (h : XB_X9_now_53_5 v1 M = some (x, M')) : am_R none 241 bk_X9_now 5 (am_wr [0, 1, 0] [v1]) [] SH M (am_rv (am_rk 241) x) SH M' :=
  vRegion (sc := none) (sh := SH) (F := F_X9_now_53) (k := 241) (bs := bk_X9_now) (r := (x, M')) (C := fun t lv st M => none) ok_X9_now fs_X9_now_53 (fun t lv st M h => by
    cases h) 8 5 (am_wr [0, 1, 0] [v1]) [] M h
noncomputable def XB_X9_now_53_e (c3 : Int → Int → am_M → am_Rs) (M : am_M) : am_Rs :=
  if wI (M 53 1) = 0 then
   some ((-4), M)
  else c3 0 0 (am_up M 53 8 0)
set_option maxRecDepth 100000 in
theorem rs_X9_now_53_e {x : Int} {M' : am_M} {c3 : Int → Int → am_M → am_Rs} (h3 : ∀ w1 w2 M, c3 w1 w2 M = some (x, M') → am_R none 241 bk_X9_now 3 (am_wr [56, 1, 1] [w1, w2]) [] SH M (am_rv (am_rk 241) x) SH M') (M : am_M) (h : XB_X9_now_53_e c3 M = some (x, M')) : am_R none 241 bk_X9_now 0 (am_ent 3 [.inr (.inr (some 53))]) [] SH M (am_rv (am_rk 241) x) SH M' :=
  vRegion (sc := none) (sh := SH) (F := F_X9_now_53) (k := 241) (bs := bk_X9_now) (r := (x, M')) (C := fun t lv st M => if t = 3 then vCt [56, 1, 1] (un2 c3) lv st M else none) ok_X9_now fs_X9_now_53 (fun t lv st M h => by
    split at h
    · rename_i e; subst e; exact vCt_s (un2_s h3) h
    cases h) 8 0 (am_ent 3 [.inr (.inr (some 53))]) [] M h
noncomputable def XL_X9_now_53_3 (k5 : Int → am_M → am_Rs) : Nat → Int → Int → am_M → am_Rs
  | 0, _, _, _ => none
  | n + 1, v1, v2, M => XB_X9_now_53_3 (XL_X9_now_53_3 k5 n) k5 v1 v2 M
theorem ls_X9_now_53_3 {x : Int} {M' : am_M} {k5 : Int → am_M → am_Rs} (hk5 : ∀ w1 M, k5 w1 M = some (x, M') → am_R none 241 bk_X9_now 5 (am_wr [0, 1, 0] [w1]) [] SH M (am_rv (am_rk 241) x) SH M') : ∀ (n : Nat) (v1 v2 : Int) (M : am_M), XL_X9_now_53_3 k5 n v1 v2 M = some (x, M') → am_R none 241 bk_X9_now 3 (am_wr [56, 1, 1] [v1, v2]) [] SH M (am_rv (am_rk 241) x) SH M'
  | 0, v1, v2, M, h => by cases h
  | n + 1, v1, v2, M, h => rs_X9_now_53_3 (ls_X9_now_53_3 hk5 n) hk5 v1 v2 M h
noncomputable def X_X9_now_53 (M : am_M) : am_Rs := XB_X9_now_53_e (XL_X9_now_53_3 (XB_X9_now_53_5) 1000) M
theorem dc_X9_now_53 (M M' : am_M) (x : Int) (h : X_X9_now_53 M = some (x, M')) : am_Calls 241 [.inr (.inr (some 53))] SH M (am_rv (am_rk 241) x) SH M' :=
  am_enter pn_X9_now ml_X9_now rfl (Nat.le_of_ble_eq_true rfl) ⟨Nat.le_refl _, Nat.le_refl _⟩ (rs_X9_now_53_e (ls_X9_now_53_3 (rs_X9_now_53_5) 1000) M h)
noncomputable def F_X9_layChances_53 : Nat → List am_V → am_M → am_Rs := fun k as M => if k = 196 then (match as with
  | [.inr (.inr (some 53)), .inl a1, .inl a2, .inl a3, .inl a4] => X_X9_behind_53 a1 a2 a3 a4 M
  | _ => none) else if k = 225 then (match as with
  | [.inr (.inr (some 53)), .inl a1, .inl a2, .inl a3] => X_X9_paysOn_53 a1 a2 a3 M
  | _ => none) else none
theorem fs_X9_layChances_53 : am_FS SH F_X9_layChances_53 := by
  intro k as M x M' h
  unfold F_X9_layChances_53 at h
  split at h
  · rename_i hk; subst hk
    split at h
    · exact dc_X9_behind_53 _ _ _ _ _ _ _ h
    · cases h
  split at h
  · rename_i hk; subst hk
    split at h
    · exact dc_X9_paysOn_53 _ _ _ _ _ _ h
    · cases h
  cases h
noncomputable def XB_X9_layChances_53_1 (c1 : Int → Int → Int → Int → am_M → am_Rs) (c6 : Int → Int → Int → am_M → am_Rs) (v1 v2 v3 v4 : Int) (M : am_M) : am_Rs :=
  if wI v4 < 13 then
   if wI v4 = wI (M 54 1) then
    if 0 ≤ wI v4 ∧ wI v4 < 13 then
    c1 v1 v2 v3 (v4 + 1) (am_up M 66 (wI v4).toNat 1)
    else none
   else if 0 ≤ wI v4 ∧ wI v4 < 13 then
   c1 v1 v2 v3 (v4 + 1) (am_up M 66 (wI v4).toNat 0)
   else none
  else c6 v1 v2 v3 M
set_option maxRecDepth 100000 in
theorem rs_X9_layChances_53_1 {x : Int} {M' : am_M} {c1 : Int → Int → Int → Int → am_M → am_Rs} {c6 : Int → Int → Int → am_M → am_Rs} (h1 : ∀ w1 w2 w3 w4 M, c1 w1 w2 w3 w4 M = some (x, M') → am_R none 242 bk_X9_layChances 1 (am_wr [56, 1, 1, 1, 1, 0, 0, 0, 0] [w1, w2, w3, w4]) [] SH M (am_rv (am_rk 242) x) SH M') (h6 : ∀ w1 w2 w3 M, c6 w1 w2 w3 M = some (x, M') → am_R none 242 bk_X9_layChances 6 (am_wr [56, 1, 1, 1, 0, 0, 0, 0, 0] [w1, w2, w3]) [] SH M (am_rv (am_rk 242) x) SH M') (v1 v2 v3 v4 : Int) (M : am_M) (h : XB_X9_layChances_53_1 c1 c6 v1 v2 v3 v4 M = some (x, M')) : am_R none 242 bk_X9_layChances 1 (am_wr [56, 1, 1, 1, 1, 0, 0, 0, 0] [v1, v2, v3, v4]) [] SH M (am_rv (am_rk 242) x) SH M' :=
  vRegion (sc := none) (sh := SH) (F := F_X9_layChances_53) (k := 242) (bs := bk_X9_layChances) (r := (x, M')) (C := fun t lv st M => if t = 1 then vCt [56, 1, 1, 1, 1, 0, 0, 0, 0] (un4 c1) lv st M else if t = 6 then vCt [56, 1, 1, 1, 0, 0, 0, 0, 0] (un3 c6) lv st M else none) ok_X9_layChances fs_X9_layChances_53 (fun t lv st M h => by
    split at h
    · rename_i e; subst e; exact vCt_s (un4_s h1) h
    split at h
    · rename_i e; subst e; exact vCt_s (un3_s h6) h
    cases h) 30 1 (am_wr [56, 1, 1, 1, 1, 0, 0, 0, 0] [v1, v2, v3, v4]) [] M h
noncomputable def XB_X9_layChances_53_6 (c7 : Int → Int → Int → Int → am_M → am_Rs) (v1 v2 v3 : Int) (M : am_M) : am_Rs :=
  c7 v1 v2 v3 0 (am_up M 53 27 0)
set_option maxRecDepth 100000 in
theorem rs_X9_layChances_53_6 {x : Int} {M' : am_M} {c7 : Int → Int → Int → Int → am_M → am_Rs} (h7 : ∀ w1 w2 w3 w4 M, c7 w1 w2 w3 w4 M = some (x, M') → am_R none 242 bk_X9_layChances 7 (am_wr [56, 1, 1, 1, 1, 0, 0, 0, 0] [w1, w2, w3, w4]) [] SH M (am_rv (am_rk 242) x) SH M') (v1 v2 v3 : Int) (M : am_M) (h : XB_X9_layChances_53_6 c7 v1 v2 v3 M = some (x, M')) : am_R none 242 bk_X9_layChances 6 (am_wr [56, 1, 1, 1, 0, 0, 0, 0, 0] [v1, v2, v3]) [] SH M (am_rv (am_rk 242) x) SH M' :=
  vRegion (sc := none) (sh := SH) (F := F_X9_layChances_53) (k := 242) (bs := bk_X9_layChances) (r := (x, M')) (C := fun t lv st M => if t = 7 then vCt [56, 1, 1, 1, 1, 0, 0, 0, 0] (un4 c7) lv st M else none) ok_X9_layChances fs_X9_layChances_53 (fun t lv st M h => by
    split at h
    · rename_i e; subst e; exact vCt_s (un4_s h7) h
    cases h) 30 6 (am_wr [56, 1, 1, 1, 0, 0, 0, 0, 0] [v1, v2, v3]) [] M h
noncomputable def XB_X9_layChances_53_7 (c9 : Int → Int → Int → Int → Int → Int → am_M → am_Rs) (c27 : am_M → am_Rs) (v1 v2 v3 v4 : Int) (M : am_M) : am_Rs :=
  if wI v4 < wI v1 then
   c9 v1 v2 v3 v4 ((M 54 0) + v4) 0 (am_up M 53 27 ((M 53 27) * 16))
  else c27 M
set_option maxRecDepth 100000 in
theorem rs_X9_layChances_53_7 {x : Int} {M' : am_M} {c9 : Int → Int → Int → Int → Int → Int → am_M → am_Rs} {c27 : am_M → am_Rs} (h9 : ∀ w1 w2 w3 w4 w5 w6 M, c9 w1 w2 w3 w4 w5 w6 M = some (x, M') → am_R none 242 bk_X9_layChances 9 (am_wr [56, 1, 1, 1, 1, 1, 1, 0, 0] [w1, w2, w3, w4, w5, w6]) [] SH M (am_rv (am_rk 242) x) SH M') (h27 : ∀ M, c27 M = some (x, M') → am_R none 242 bk_X9_layChances 27 (am_wr [0, 0, 0, 0, 0, 0, 0, 0, 0] []) [] SH M (am_rv (am_rk 242) x) SH M') (v1 v2 v3 v4 : Int) (M : am_M) (h : XB_X9_layChances_53_7 c9 c27 v1 v2 v3 v4 M = some (x, M')) : am_R none 242 bk_X9_layChances 7 (am_wr [56, 1, 1, 1, 1, 0, 0, 0, 0] [v1, v2, v3, v4]) [] SH M (am_rv (am_rk 242) x) SH M' :=
  vRegion (sc := none) (sh := SH) (F := F_X9_layChances_53) (k := 242) (bs := bk_X9_layChances) (r := (x, M')) (C := fun t lv st M => if t = 9 then vCt [56, 1, 1, 1, 1, 1, 1, 0, 0] (un6 c9) lv st M else if t = 27 then vCt [0, 0, 0, 0, 0, 0, 0, 0, 0] (un0 c27) lv st M else none) ok_X9_layChances fs_X9_layChances_53 (fun t lv st M h => by
    split at h
    · rename_i e; subst e; exact vCt_s (un6_s h9) h
    split at h
    · rename_i e; subst e; exact vCt_s (un0_s h27) h
    cases h) 30 7 (am_wr [56, 1, 1, 1, 1, 0, 0, 0, 0] [v1, v2, v3, v4]) [] M h
noncomputable def XB_X9_layChances_53_9 (c9 : Int → Int → Int → Int → Int → Int → am_M → am_Rs) (c11 : Int → Int → Int → Int → Int → am_M → am_Rs) (v1 v2 v3 v4 v5 v6 : Int) (M : am_M) : am_Rs :=
  if wI v6 < 13 then
   if 0 ≤ wI v6 ∧ wI v6 < 13 then
   c9 v1 v2 v3 v4 v5 (v6 + 1) (am_up M 67 (wI v6).toNat 0)
   else none
  else c11 v1 v2 v3 v4 v5 M
set_option maxRecDepth 100000 in
theorem rs_X9_layChances_53_9 {x : Int} {M' : am_M} {c9 : Int → Int → Int → Int → Int → Int → am_M → am_Rs} {c11 : Int → Int → Int → Int → Int → am_M → am_Rs} (h9 : ∀ w1 w2 w3 w4 w5 w6 M, c9 w1 w2 w3 w4 w5 w6 M = some (x, M') → am_R none 242 bk_X9_layChances 9 (am_wr [56, 1, 1, 1, 1, 1, 1, 0, 0] [w1, w2, w3, w4, w5, w6]) [] SH M (am_rv (am_rk 242) x) SH M') (h11 : ∀ w1 w2 w3 w4 w5 M, c11 w1 w2 w3 w4 w5 M = some (x, M') → am_R none 242 bk_X9_layChances 11 (am_wr [56, 1, 1, 1, 1, 1, 0, 0, 0] [w1, w2, w3, w4, w5]) [] SH M (am_rv (am_rk 242) x) SH M') (v1 v2 v3 v4 v5 v6 : Int) (M : am_M) (h : XB_X9_layChances_53_9 c9 c11 v1 v2 v3 v4 v5 v6 M = some (x, M')) : am_R none 242 bk_X9_layChances 9 (am_wr [56, 1, 1, 1, 1, 1, 1, 0, 0] [v1, v2, v3, v4, v5, v6]) [] SH M (am_rv (am_rk 242) x) SH M' :=
  vRegion (sc := none) (sh := SH) (F := F_X9_layChances_53) (k := 242) (bs := bk_X9_layChances) (r := (x, M')) (C := fun t lv st M => if t = 9 then vCt [56, 1, 1, 1, 1, 1, 1, 0, 0] (un6 c9) lv st M else if t = 11 then vCt [56, 1, 1, 1, 1, 1, 0, 0, 0] (un5 c11) lv st M else none) ok_X9_layChances fs_X9_layChances_53 (fun t lv st M h => by
    split at h
    · rename_i e; subst e; exact vCt_s (un6_s h9) h
    split at h
    · rename_i e; subst e; exact vCt_s (un5_s h11) h
    cases h) 30 9 (am_wr [56, 1, 1, 1, 1, 1, 1, 0, 0] [v1, v2, v3, v4, v5, v6]) [] M h
noncomputable def XB_X9_layChances_53_27 (M : am_M) : am_Rs :=
  some (0, M)
set_option maxRecDepth 100000 in
theorem rs_X9_layChances_53_27 {x : Int} {M' : am_M} (M : am_M) (h : XB_X9_layChances_53_27 M = some (x, M')) : am_R none 242 bk_X9_layChances 27 (am_wr [0, 0, 0, 0, 0, 0, 0, 0, 0] []) [] SH M (am_rv (am_rk 242) x) SH M' :=
  vRegion (sc := none) (sh := SH) (F := F_X9_layChances_53) (k := 242) (bs := bk_X9_layChances) (r := (x, M')) (C := fun t lv st M => none) ok_X9_layChances fs_X9_layChances_53 (fun t lv st M h => by
    cases h) 30 27 (am_wr [0, 0, 0, 0, 0, 0, 0, 0, 0] []) [] M h
noncomputable def XB_X9_layChances_53_11 (c12 : Int → Int → Int → Int → Int → Int → am_M → am_Rs) (v1 v2 v3 v4 v5 : Int) (M : am_M) : am_Rs :=
  c12 v1 v2 v3 v4 v5 0 M
set_option maxRecDepth 100000 in
theorem rs_X9_layChances_53_11 {x : Int} {M' : am_M} {c12 : Int → Int → Int → Int → Int → Int → am_M → am_Rs} (h12 : ∀ w1 w2 w3 w4 w5 w6 M, c12 w1 w2 w3 w4 w5 w6 M = some (x, M') → am_R none 242 bk_X9_layChances 12 (am_wr [56, 1, 1, 1, 1, 1, 1, 0, 0] [w1, w2, w3, w4, w5, w6]) [] SH M (am_rv (am_rk 242) x) SH M') (v1 v2 v3 v4 v5 : Int) (M : am_M) (h : XB_X9_layChances_53_11 c12 v1 v2 v3 v4 v5 M = some (x, M')) : am_R none 242 bk_X9_layChances 11 (am_wr [56, 1, 1, 1, 1, 1, 0, 0, 0] [v1, v2, v3, v4, v5]) [] SH M (am_rv (am_rk 242) x) SH M' :=
  vRegion (sc := none) (sh := SH) (F := F_X9_layChances_53) (k := 242) (bs := bk_X9_layChances) (r := (x, M')) (C := fun t lv st M => if t = 12 then vCt [56, 1, 1, 1, 1, 1, 1, 0, 0] (un6 c12) lv st M else none) ok_X9_layChances fs_X9_layChances_53 (fun t lv st M h => by
    split at h
    · rename_i e; subst e; exact vCt_s (un6_s h12) h
    cases h) 30 11 (am_wr [56, 1, 1, 1, 1, 1, 0, 0, 0] [v1, v2, v3, v4, v5]) [] M h
noncomputable def XB_X9_layChances_53_12 (c14 : Int → Int → Int → Int → Int → Int → Int → am_M → am_Rs) (c23 : Int → Int → Int → Int → am_M → am_Rs) (v1 v2 v3 v4 v5 v6 : Int) (M : am_M) : am_Rs :=
  if wI (M 53 1) < wI v6 then
   c23 v1 v2 v3 v4 M
  else c14 v1 v2 v3 v4 v5 v6 0 M
set_option maxRecDepth 100000 in
theorem rs_X9_layChances_53_12 {x : Int} {M' : am_M} {c14 : Int → Int → Int → Int → Int → Int → Int → am_M → am_Rs} {c23 : Int → Int → Int → Int → am_M → am_Rs} (h14 : ∀ w1 w2 w3 w4 w5 w6 w7 M, c14 w1 w2 w3 w4 w5 w6 w7 M = some (x, M') → am_R none 242 bk_X9_layChances 14 (am_wr [56, 1, 1, 1, 1, 1, 1, 1, 0] [w1, w2, w3, w4, w5, w6, w7]) [] SH M (am_rv (am_rk 242) x) SH M') (h23 : ∀ w1 w2 w3 w4 M, c23 w1 w2 w3 w4 M = some (x, M') → am_R none 242 bk_X9_layChances 23 (am_wr [56, 1, 1, 1, 1, 0, 0, 0, 0] [w1, w2, w3, w4]) [] SH M (am_rv (am_rk 242) x) SH M') (v1 v2 v3 v4 v5 v6 : Int) (M : am_M) (h : XB_X9_layChances_53_12 c14 c23 v1 v2 v3 v4 v5 v6 M = some (x, M')) : am_R none 242 bk_X9_layChances 12 (am_wr [56, 1, 1, 1, 1, 1, 1, 0, 0] [v1, v2, v3, v4, v5, v6]) [] SH M (am_rv (am_rk 242) x) SH M' :=
  vRegion (sc := none) (sh := SH) (F := F_X9_layChances_53) (k := 242) (bs := bk_X9_layChances) (r := (x, M')) (C := fun t lv st M => if t = 14 then vCt [56, 1, 1, 1, 1, 1, 1, 1, 0] (un7 c14) lv st M else if t = 23 then vCt [56, 1, 1, 1, 1, 0, 0, 0, 0] (un4 c23) lv st M else none) ok_X9_layChances fs_X9_layChances_53 (fun t lv st M h => by
    split at h
    · rename_i e; subst e; exact vCt_s (un7_s h14) h
    split at h
    · rename_i e; subst e; exact vCt_s (un4_s h23) h
    cases h) 30 12 (am_wr [56, 1, 1, 1, 1, 1, 1, 0, 0] [v1, v2, v3, v4, v5, v6]) [] M h
noncomputable def XB_X9_layChances_53_14 (c14 : Int → Int → Int → Int → Int → Int → Int → am_M → am_Rs) (c22 : Int → Int → Int → Int → Int → Int → am_M → am_Rs) (v1 v2 v3 v4 v5 v6 v7 : Int) (M : am_M) : am_Rs :=
  if wI v7 < 16 then
   if wI v6 = wI v2 then
    if 0 ≤ wI v6 ∧ wI v6 < 13 then
    if 0 ≤ wI v6 ∧ wI v6 < 13 then
     if 0 ≤ wI v6 ∧ wI v6 < 13 then
      if wI v3 < 0 then
        c14 v1 v2 v3 v4 v5 v6 (v7 + 1) (am_up (am_up M 67 (wI v6).toNat ((M 67 (wI v6).toNat) + (M 66 (wI v6).toNat))) 53 27 (((am_up M 67 (wI v6).toNat ((M 67 (wI v6).toNat) + (M 66 (wI v6).toNat))) 53 27) + 0))
       else if 0 ≤ wI v6 ∧ wI v6 < 13 then
       (X_X9_paysOn_53 v3 v5 v6 (am_up M 67 (wI v6).toNat ((M 67 (wI v6).toNat) + (M 66 (wI v6).toNat)))).bind fun z1 =>
        c14 v1 v2 v3 v4 v5 v6 (v7 + 1) (am_up z1.2 53 27 (((am_up M 67 (wI v6).toNat ((M 67 (wI v6).toNat) + (M 66 (wI v6).toNat))) 53 27) + (((am_up M 67 (wI v6).toNat ((M 67 (wI v6).toNat) + (M 66 (wI v6).toNat))) 66 (wI v6).toNat) * (wI z1.1))))
       else none
      else none
     else none
    else none
   else (X_X9_behind_53 v6 v5 ((wI v7).tdiv 4) ((wI v7).tmod 4) M).bind fun z1 =>
   if 0 ≤ wI z1.1 ∧ wI z1.1 < 13 then
   if 0 ≤ wI v6 ∧ wI v6 < 13 then
    if 0 ≤ wI z1.1 ∧ wI z1.1 < 13 then
     if wI v3 < 0 then
       c14 v1 v2 v3 v4 v5 v6 (v7 + 1) (am_up (am_up z1.2 67 (wI z1.1).toNat ((z1.2 67 (wI z1.1).toNat) + (z1.2 66 (wI v6).toNat))) 53 27 (((am_up z1.2 67 (wI z1.1).toNat ((z1.2 67 (wI z1.1).toNat) + (z1.2 66 (wI v6).toNat))) 53 27) + 0))
      else if 0 ≤ wI v6 ∧ wI v6 < 13 then
      (X_X9_paysOn_53 v3 v5 z1.1 (am_up z1.2 67 (wI z1.1).toNat ((z1.2 67 (wI z1.1).toNat) + (z1.2 66 (wI v6).toNat)))).bind fun z2 =>
       c14 v1 v2 v3 v4 v5 v6 (v7 + 1) (am_up z2.2 53 27 (((am_up z1.2 67 (wI z1.1).toNat ((z1.2 67 (wI z1.1).toNat) + (z1.2 66 (wI v6).toNat))) 53 27) + (((am_up z1.2 67 (wI z1.1).toNat ((z1.2 67 (wI z1.1).toNat) + (z1.2 66 (wI v6).toNat))) 66 (wI v6).toNat) * (wI z2.1))))
      else none
     else none
    else none
   else none
  else c22 v1 v2 v3 v4 v5 v6 M
set_option maxRecDepth 100000 in
theorem rs_X9_layChances_53_14 {x : Int} {M' : am_M} {c14 : Int → Int → Int → Int → Int → Int → Int → am_M → am_Rs} {c22 : Int → Int → Int → Int → Int → Int → am_M → am_Rs} (h14 : ∀ w1 w2 w3 w4 w5 w6 w7 M, c14 w1 w2 w3 w4 w5 w6 w7 M = some (x, M') → am_R none 242 bk_X9_layChances 14 (am_wr [56, 1, 1, 1, 1, 1, 1, 1, 0] [w1, w2, w3, w4, w5, w6, w7]) [] SH M (am_rv (am_rk 242) x) SH M') (h22 : ∀ w1 w2 w3 w4 w5 w6 M, c22 w1 w2 w3 w4 w5 w6 M = some (x, M') → am_R none 242 bk_X9_layChances 22 (am_wr [56, 1, 1, 1, 1, 1, 1, 0, 0] [w1, w2, w3, w4, w5, w6]) [] SH M (am_rv (am_rk 242) x) SH M') (v1 v2 v3 v4 v5 v6 v7 : Int) (M : am_M) (h : XB_X9_layChances_53_14 c14 c22 v1 v2 v3 v4 v5 v6 v7 M = some (x, M')) : am_R none 242 bk_X9_layChances 14 (am_wr [56, 1, 1, 1, 1, 1, 1, 1, 0] [v1, v2, v3, v4, v5, v6, v7]) [] SH M (am_rv (am_rk 242) x) SH M' :=
  vRegion (sc := none) (sh := SH) (F := F_X9_layChances_53) (k := 242) (bs := bk_X9_layChances) (r := (x, M')) (C := fun t lv st M => if t = 14 then vCt [56, 1, 1, 1, 1, 1, 1, 1, 0] (un7 c14) lv st M else if t = 22 then vCt [56, 1, 1, 1, 1, 1, 1, 0, 0] (un6 c22) lv st M else none) ok_X9_layChances fs_X9_layChances_53 (fun t lv st M h => by
    split at h
    · rename_i e; subst e; exact vCt_s (un7_s h14) h
    split at h
    · rename_i e; subst e; exact vCt_s (un6_s h22) h
    cases h) 30 14 (am_wr [56, 1, 1, 1, 1, 1, 1, 1, 0] [v1, v2, v3, v4, v5, v6, v7]) [] M h
noncomputable def XB_X9_layChances_53_23 (c24 : Int → Int → Int → Int → Int → am_M → am_Rs) (v1 v2 v3 v4 : Int) (M : am_M) : am_Rs :=
  c24 v1 v2 v3 v4 0 M
set_option maxRecDepth 100000 in
theorem rs_X9_layChances_53_23 {x : Int} {M' : am_M} {c24 : Int → Int → Int → Int → Int → am_M → am_Rs} (h24 : ∀ w1 w2 w3 w4 w6 M, c24 w1 w2 w3 w4 w6 M = some (x, M') → am_R none 242 bk_X9_layChances 24 (am_wr [56, 1, 1, 1, 1, 0, 1, 0, 0] [w1, w2, w3, w4, w6]) [] SH M (am_rv (am_rk 242) x) SH M') (v1 v2 v3 v4 : Int) (M : am_M) (h : XB_X9_layChances_53_23 c24 v1 v2 v3 v4 M = some (x, M')) : am_R none 242 bk_X9_layChances 23 (am_wr [56, 1, 1, 1, 1, 0, 0, 0, 0] [v1, v2, v3, v4]) [] SH M (am_rv (am_rk 242) x) SH M' :=
  vRegion (sc := none) (sh := SH) (F := F_X9_layChances_53) (k := 242) (bs := bk_X9_layChances) (r := (x, M')) (C := fun t lv st M => if t = 24 then vCt [56, 1, 1, 1, 1, 0, 1, 0, 0] (un5 c24) lv st M else none) ok_X9_layChances fs_X9_layChances_53 (fun t lv st M h => by
    split at h
    · rename_i e; subst e; exact vCt_s (un5_s h24) h
    cases h) 30 23 (am_wr [56, 1, 1, 1, 1, 0, 0, 0, 0] [v1, v2, v3, v4]) [] M h
noncomputable def XB_X9_layChances_53_22 (c12 : Int → Int → Int → Int → Int → Int → am_M → am_Rs) (v1 v2 v3 v4 v5 v6 : Int) (M : am_M) : am_Rs :=
  c12 v1 v2 v3 v4 v5 (v6 + 1) M
set_option maxRecDepth 100000 in
theorem rs_X9_layChances_53_22 {x : Int} {M' : am_M} {c12 : Int → Int → Int → Int → Int → Int → am_M → am_Rs} (h12 : ∀ w1 w2 w3 w4 w5 w6 M, c12 w1 w2 w3 w4 w5 w6 M = some (x, M') → am_R none 242 bk_X9_layChances 12 (am_wr [56, 1, 1, 1, 1, 1, 1, 0, 0] [w1, w2, w3, w4, w5, w6]) [] SH M (am_rv (am_rk 242) x) SH M') (v1 v2 v3 v4 v5 v6 : Int) (M : am_M) (h : XB_X9_layChances_53_22 c12 v1 v2 v3 v4 v5 v6 M = some (x, M')) : am_R none 242 bk_X9_layChances 22 (am_wr [56, 1, 1, 1, 1, 1, 1, 0, 0] [v1, v2, v3, v4, v5, v6]) [] SH M (am_rv (am_rk 242) x) SH M' :=
  vRegion (sc := none) (sh := SH) (F := F_X9_layChances_53) (k := 242) (bs := bk_X9_layChances) (r := (x, M')) (C := fun t lv st M => if t = 12 then vCt [56, 1, 1, 1, 1, 1, 1, 0, 0] (un6 c12) lv st M else none) ok_X9_layChances fs_X9_layChances_53 (fun t lv st M h => by
    split at h
    · rename_i e; subst e; exact vCt_s (un6_s h12) h
    cases h) 30 22 (am_wr [56, 1, 1, 1, 1, 1, 1, 0, 0] [v1, v2, v3, v4, v5, v6]) [] M h
noncomputable def XB_X9_layChances_53_24 (c24 : Int → Int → Int → Int → Int → am_M → am_Rs) (c26 : Int → Int → Int → Int → am_M → am_Rs) (v1 v2 v3 v4 v6 : Int) (M : am_M) : am_Rs :=
  if wI v6 < 13 then
   if 0 ≤ wI v6 ∧ wI v6 < 13 then
   if 0 ≤ wI v6 ∧ wI v6 < 13 then
    c24 v1 v2 v3 v4 (v6 + 1) (am_up M 66 (wI v6).toNat (M 67 (wI v6).toNat))
    else none
   else none
  else c26 v1 v2 v3 v4 M
set_option maxRecDepth 100000 in
theorem rs_X9_layChances_53_24 {x : Int} {M' : am_M} {c24 : Int → Int → Int → Int → Int → am_M → am_Rs} {c26 : Int → Int → Int → Int → am_M → am_Rs} (h24 : ∀ w1 w2 w3 w4 w6 M, c24 w1 w2 w3 w4 w6 M = some (x, M') → am_R none 242 bk_X9_layChances 24 (am_wr [56, 1, 1, 1, 1, 0, 1, 0, 0] [w1, w2, w3, w4, w6]) [] SH M (am_rv (am_rk 242) x) SH M') (h26 : ∀ w1 w2 w3 w4 M, c26 w1 w2 w3 w4 M = some (x, M') → am_R none 242 bk_X9_layChances 26 (am_wr [56, 1, 1, 1, 1, 0, 0, 0, 0] [w1, w2, w3, w4]) [] SH M (am_rv (am_rk 242) x) SH M') (v1 v2 v3 v4 v6 : Int) (M : am_M) (h : XB_X9_layChances_53_24 c24 c26 v1 v2 v3 v4 v6 M = some (x, M')) : am_R none 242 bk_X9_layChances 24 (am_wr [56, 1, 1, 1, 1, 0, 1, 0, 0] [v1, v2, v3, v4, v6]) [] SH M (am_rv (am_rk 242) x) SH M' :=
  vRegion (sc := none) (sh := SH) (F := F_X9_layChances_53) (k := 242) (bs := bk_X9_layChances) (r := (x, M')) (C := fun t lv st M => if t = 24 then vCt [56, 1, 1, 1, 1, 0, 1, 0, 0] (un5 c24) lv st M else if t = 26 then vCt [56, 1, 1, 1, 1, 0, 0, 0, 0] (un4 c26) lv st M else none) ok_X9_layChances fs_X9_layChances_53 (fun t lv st M h => by
    split at h
    · rename_i e; subst e; exact vCt_s (un5_s h24) h
    split at h
    · rename_i e; subst e; exact vCt_s (un4_s h26) h
    cases h) 30 24 (am_wr [56, 1, 1, 1, 1, 0, 1, 0, 0] [v1, v2, v3, v4, v6]) [] M h
noncomputable def XB_X9_layChances_53_26 (c7 : Int → Int → Int → Int → am_M → am_Rs) (v1 v2 v3 v4 : Int) (M : am_M) : am_Rs :=
  c7 v1 v2 v3 (v4 + 1) M
set_option maxRecDepth 100000 in
theorem rs_X9_layChances_53_26 {x : Int} {M' : am_M} {c7 : Int → Int → Int → Int → am_M → am_Rs} (h7 : ∀ w1 w2 w3 w4 M, c7 w1 w2 w3 w4 M = some (x, M') → am_R none 242 bk_X9_layChances 7 (am_wr [56, 1, 1, 1, 1, 0, 0, 0, 0] [w1, w2, w3, w4]) [] SH M (am_rv (am_rk 242) x) SH M') (v1 v2 v3 v4 : Int) (M : am_M) (h : XB_X9_layChances_53_26 c7 v1 v2 v3 v4 M = some (x, M')) : am_R none 242 bk_X9_layChances 26 (am_wr [56, 1, 1, 1, 1, 0, 0, 0, 0] [v1, v2, v3, v4]) [] SH M (am_rv (am_rk 242) x) SH M' :=
  vRegion (sc := none) (sh := SH) (F := F_X9_layChances_53) (k := 242) (bs := bk_X9_layChances) (r := (x, M')) (C := fun t lv st M => if t = 7 then vCt [56, 1, 1, 1, 1, 0, 0, 0, 0] (un4 c7) lv st M else none) ok_X9_layChances fs_X9_layChances_53 (fun t lv st M h => by
    split at h
    · rename_i e; subst e; exact vCt_s (un4_s h7) h
    cases h) 30 26 (am_wr [56, 1, 1, 1, 1, 0, 0, 0, 0] [v1, v2, v3, v4]) [] M h
noncomputable def XB_X9_layChances_53_e (c1 : Int → Int → Int → Int → am_M → am_Rs) (v1 v2 v3 : Int) (M : am_M) : am_Rs :=
  c1 v1 v2 v3 0 M
set_option maxRecDepth 100000 in
theorem rs_X9_layChances_53_e {x : Int} {M' : am_M} {c1 : Int → Int → Int → Int → am_M → am_Rs} (h1 : ∀ w1 w2 w3 w4 M, c1 w1 w2 w3 w4 M = some (x, M') → am_R none 242 bk_X9_layChances 1 (am_wr [56, 1, 1, 1, 1, 0, 0, 0, 0] [w1, w2, w3, w4]) [] SH M (am_rv (am_rk 242) x) SH M') (v1 v2 v3 : Int) (M : am_M) (h : XB_X9_layChances_53_e c1 v1 v2 v3 M = some (x, M')) : am_R none 242 bk_X9_layChances 0 (am_ent 9 [.inr (.inr (some 53)), .inl v1, .inl v2, .inl v3]) [] SH M (am_rv (am_rk 242) x) SH M' :=
  vRegion (sc := none) (sh := SH) (F := F_X9_layChances_53) (k := 242) (bs := bk_X9_layChances) (r := (x, M')) (C := fun t lv st M => if t = 1 then vCt [56, 1, 1, 1, 1, 0, 0, 0, 0] (un4 c1) lv st M else none) ok_X9_layChances fs_X9_layChances_53 (fun t lv st M h => by
    split at h
    · rename_i e; subst e; exact vCt_s (un4_s h1) h
    cases h) 30 0 (am_ent 9 [.inr (.inr (some 53)), .inl v1, .inl v2, .inl v3]) [] M h
noncomputable def XL_X9_layChances_53_1 (k6 : Int → Int → Int → am_M → am_Rs) : Nat → Int → Int → Int → Int → am_M → am_Rs
  | 0, _, _, _, _, _ => none
  | n + 1, v1, v2, v3, v4, M => XB_X9_layChances_53_1 (XL_X9_layChances_53_1 k6 n) k6 v1 v2 v3 v4 M
theorem ls_X9_layChances_53_1 {x : Int} {M' : am_M} {k6 : Int → Int → Int → am_M → am_Rs} (hk6 : ∀ w1 w2 w3 M, k6 w1 w2 w3 M = some (x, M') → am_R none 242 bk_X9_layChances 6 (am_wr [56, 1, 1, 1, 0, 0, 0, 0, 0] [w1, w2, w3]) [] SH M (am_rv (am_rk 242) x) SH M') : ∀ (n : Nat) (v1 v2 v3 v4 : Int) (M : am_M), XL_X9_layChances_53_1 k6 n v1 v2 v3 v4 M = some (x, M') → am_R none 242 bk_X9_layChances 1 (am_wr [56, 1, 1, 1, 1, 0, 0, 0, 0] [v1, v2, v3, v4]) [] SH M (am_rv (am_rk 242) x) SH M'
  | 0, v1, v2, v3, v4, M, h => by cases h
  | n + 1, v1, v2, v3, v4, M, h => rs_X9_layChances_53_1 (ls_X9_layChances_53_1 hk6 n) hk6 v1 v2 v3 v4 M h
noncomputable def XL_X9_layChances_53_9 (k11 : Int → Int → Int → Int → Int → am_M → am_Rs) : Nat → Int → Int → Int → Int → Int → Int → am_M → am_Rs
  | 0, _, _, _, _, _, _, _ => none
  | n + 1, v1, v2, v3, v4, v5, v6, M => XB_X9_layChances_53_9 (XL_X9_layChances_53_9 k11 n) k11 v1 v2 v3 v4 v5 v6 M
theorem ls_X9_layChances_53_9 {x : Int} {M' : am_M} {k11 : Int → Int → Int → Int → Int → am_M → am_Rs} (hk11 : ∀ w1 w2 w3 w4 w5 M, k11 w1 w2 w3 w4 w5 M = some (x, M') → am_R none 242 bk_X9_layChances 11 (am_wr [56, 1, 1, 1, 1, 1, 0, 0, 0] [w1, w2, w3, w4, w5]) [] SH M (am_rv (am_rk 242) x) SH M') : ∀ (n : Nat) (v1 v2 v3 v4 v5 v6 : Int) (M : am_M), XL_X9_layChances_53_9 k11 n v1 v2 v3 v4 v5 v6 M = some (x, M') → am_R none 242 bk_X9_layChances 9 (am_wr [56, 1, 1, 1, 1, 1, 1, 0, 0] [v1, v2, v3, v4, v5, v6]) [] SH M (am_rv (am_rk 242) x) SH M'
  | 0, v1, v2, v3, v4, v5, v6, M, h => by cases h
  | n + 1, v1, v2, v3, v4, v5, v6, M, h => rs_X9_layChances_53_9 (ls_X9_layChances_53_9 hk11 n) hk11 v1 v2 v3 v4 v5 v6 M h
noncomputable def XL_X9_layChances_53_14 (k22 : Int → Int → Int → Int → Int → Int → am_M → am_Rs) : Nat → Int → Int → Int → Int → Int → Int → Int → am_M → am_Rs
  | 0, _, _, _, _, _, _, _, _ => none
  | n + 1, v1, v2, v3, v4, v5, v6, v7, M => XB_X9_layChances_53_14 (XL_X9_layChances_53_14 k22 n) k22 v1 v2 v3 v4 v5 v6 v7 M
theorem ls_X9_layChances_53_14 {x : Int} {M' : am_M} {k22 : Int → Int → Int → Int → Int → Int → am_M → am_Rs} (hk22 : ∀ w1 w2 w3 w4 w5 w6 M, k22 w1 w2 w3 w4 w5 w6 M = some (x, M') → am_R none 242 bk_X9_layChances 22 (am_wr [56, 1, 1, 1, 1, 1, 1, 0, 0] [w1, w2, w3, w4, w5, w6]) [] SH M (am_rv (am_rk 242) x) SH M') : ∀ (n : Nat) (v1 v2 v3 v4 v5 v6 v7 : Int) (M : am_M), XL_X9_layChances_53_14 k22 n v1 v2 v3 v4 v5 v6 v7 M = some (x, M') → am_R none 242 bk_X9_layChances 14 (am_wr [56, 1, 1, 1, 1, 1, 1, 1, 0] [v1, v2, v3, v4, v5, v6, v7]) [] SH M (am_rv (am_rk 242) x) SH M'
  | 0, v1, v2, v3, v4, v5, v6, v7, M, h => by cases h
  | n + 1, v1, v2, v3, v4, v5, v6, v7, M, h => rs_X9_layChances_53_14 (ls_X9_layChances_53_14 hk22 n) hk22 v1 v2 v3 v4 v5 v6 v7 M h
noncomputable def XL_X9_layChances_53_12 (k23 : Int → Int → Int → Int → am_M → am_Rs) : Nat → Int → Int → Int → Int → Int → Int → am_M → am_Rs
  | 0, _, _, _, _, _, _, _ => none
  | n + 1, v1, v2, v3, v4, v5, v6, M => XB_X9_layChances_53_12 (XL_X9_layChances_53_14 (XB_X9_layChances_53_22 (XL_X9_layChances_53_12 k23 n)) 1000) k23 v1 v2 v3 v4 v5 v6 M
theorem ls_X9_layChances_53_12 {x : Int} {M' : am_M} {k23 : Int → Int → Int → Int → am_M → am_Rs} (hk23 : ∀ w1 w2 w3 w4 M, k23 w1 w2 w3 w4 M = some (x, M') → am_R none 242 bk_X9_layChances 23 (am_wr [56, 1, 1, 1, 1, 0, 0, 0, 0] [w1, w2, w3, w4]) [] SH M (am_rv (am_rk 242) x) SH M') : ∀ (n : Nat) (v1 v2 v3 v4 v5 v6 : Int) (M : am_M), XL_X9_layChances_53_12 k23 n v1 v2 v3 v4 v5 v6 M = some (x, M') → am_R none 242 bk_X9_layChances 12 (am_wr [56, 1, 1, 1, 1, 1, 1, 0, 0] [v1, v2, v3, v4, v5, v6]) [] SH M (am_rv (am_rk 242) x) SH M'
  | 0, v1, v2, v3, v4, v5, v6, M, h => by cases h
  | n + 1, v1, v2, v3, v4, v5, v6, M, h => rs_X9_layChances_53_12 (ls_X9_layChances_53_14 (rs_X9_layChances_53_22 (ls_X9_layChances_53_12 hk23 n)) 1000) hk23 v1 v2 v3 v4 v5 v6 M h
noncomputable def XL_X9_layChances_53_24 (k26 : Int → Int → Int → Int → am_M → am_Rs) : Nat → Int → Int → Int → Int → Int → am_M → am_Rs
  | 0, _, _, _, _, _, _ => none
  | n + 1, v1, v2, v3, v4, v6, M => XB_X9_layChances_53_24 (XL_X9_layChances_53_24 k26 n) k26 v1 v2 v3 v4 v6 M
theorem ls_X9_layChances_53_24 {x : Int} {M' : am_M} {k26 : Int → Int → Int → Int → am_M → am_Rs} (hk26 : ∀ w1 w2 w3 w4 M, k26 w1 w2 w3 w4 M = some (x, M') → am_R none 242 bk_X9_layChances 26 (am_wr [56, 1, 1, 1, 1, 0, 0, 0, 0] [w1, w2, w3, w4]) [] SH M (am_rv (am_rk 242) x) SH M') : ∀ (n : Nat) (v1 v2 v3 v4 v6 : Int) (M : am_M), XL_X9_layChances_53_24 k26 n v1 v2 v3 v4 v6 M = some (x, M') → am_R none 242 bk_X9_layChances 24 (am_wr [56, 1, 1, 1, 1, 0, 1, 0, 0] [v1, v2, v3, v4, v6]) [] SH M (am_rv (am_rk 242) x) SH M'
  | 0, v1, v2, v3, v4, v6, M, h => by cases h
  | n + 1, v1, v2, v3, v4, v6, M, h => rs_X9_layChances_53_24 (ls_X9_layChances_53_24 hk26 n) hk26 v1 v2 v3 v4 v6 M h
noncomputable def XL_X9_layChances_53_7 (k27 : am_M → am_Rs) : Nat → Int → Int → Int → Int → am_M → am_Rs
  | 0, _, _, _, _, _ => none
  | n + 1, v1, v2, v3, v4, M => XB_X9_layChances_53_7 (XL_X9_layChances_53_9 (XB_X9_layChances_53_11 (XL_X9_layChances_53_12 (XB_X9_layChances_53_23 (XL_X9_layChances_53_24 (XB_X9_layChances_53_26 (XL_X9_layChances_53_7 k27 n)) 1000)) 1000)) 1000) k27 v1 v2 v3 v4 M
theorem ls_X9_layChances_53_7 {x : Int} {M' : am_M} {k27 : am_M → am_Rs} (hk27 : ∀ M, k27 M = some (x, M') → am_R none 242 bk_X9_layChances 27 (am_wr [0, 0, 0, 0, 0, 0, 0, 0, 0] []) [] SH M (am_rv (am_rk 242) x) SH M') : ∀ (n : Nat) (v1 v2 v3 v4 : Int) (M : am_M), XL_X9_layChances_53_7 k27 n v1 v2 v3 v4 M = some (x, M') → am_R none 242 bk_X9_layChances 7 (am_wr [56, 1, 1, 1, 1, 0, 0, 0, 0] [v1, v2, v3, v4]) [] SH M (am_rv (am_rk 242) x) SH M'
  | 0, v1, v2, v3, v4, M, h => by cases h
  | n + 1, v1, v2, v3, v4, M, h => rs_X9_layChances_53_7 (ls_X9_layChances_53_9 (rs_X9_layChances_53_11 (ls_X9_layChances_53_12 (rs_X9_layChances_53_23 (ls_X9_layChances_53_24 (rs_X9_layChances_53_26 (ls_X9_layChances_53_7 hk27 n)) 1000)) 1000)) 1000) hk27 v1 v2 v3 v4 M h
noncomputable def X_X9_layChances_53 (v1 v2 v3 : Int) (M : am_M) : am_Rs := XB_X9_layChances_53_e (XL_X9_layChances_53_1 (XB_X9_layChances_53_6 (XL_X9_layChances_53_7 (XB_X9_layChances_53_27) 1000)) 1000) v1 v2 v3 M
theorem dc_X9_layChances_53 (v1 v2 v3 : Int) (M M' : am_M) (x : Int) (h : X_X9_layChances_53 v1 v2 v3 M = some (x, M')) : am_Calls 242 [.inr (.inr (some 53)), .inl v1, .inl v2, .inl v3] SH M (am_rv (am_rk 242) x) SH M' :=
  am_enter pn_X9_layChances ml_X9_layChances rfl (Nat.le_of_ble_eq_true rfl) ⟨Nat.le_refl _, Nat.le_refl _⟩ (rs_X9_layChances_53_e (ls_X9_layChances_53_1 (rs_X9_layChances_53_6 (ls_X9_layChances_53_7 (rs_X9_layChances_53_27) 1000)) 1000) v1 v2 v3 M h)
noncomputable def X_X9_sixteen (v0 : Int) (M : am_M) : am_Rs :=
  some (b_lshl_ 1 (4 * v0), M)
set_option maxRecDepth 100000 in
theorem dc_X9_sixteen (v0 : Int) (M M' : am_M) (x : Int) (h : X_X9_sixteen v0 M = some (x, M')) : am_Calls 243 [.inl v0] SH M (am_rv (am_rk 243) x) SH M' :=
  vCall (F := F_none) (C := fun _ _ _ _ => none) (fu := 3) ok_X9_sixteen pn_X9_sixteen ml_X9_sixteen rfl (Nat.le_of_ble_eq_true rfl) fs_none (fun _ _ _ _ h => by cases h) h
noncomputable def XB_X9_tellParts_53_1 (c1 : Int → Int → Int → Int → am_M → am_Rs) (c3 : Int → Int → Int → am_M → am_Rs) (v1 v3 v5 v7 : Int) (M : am_M) : am_Rs :=
  if wI (c_lcmp v7 0) = 0 then
   c3 v1 v3 v5 M
  else if wL v7 ≠ 0 then
  c1 v1 v3 v7 ((wL v5).tmod (wL v7)) M
  else none
set_option maxRecDepth 100000 in
theorem rs_X9_tellParts_53_1 {x : Int} {M' : am_M} {c1 : Int → Int → Int → Int → am_M → am_Rs} {c3 : Int → Int → Int → am_M → am_Rs} (h1 : ∀ w1 w3 w5 w7 M, c1 w1 w3 w5 w7 M = some (x, M') → am_R none 236 bk_X9_tellParts 1 (am_wr [56, 2, 0, 2, 0, 2, 0, 2, 0, 0, 0] [w1, w3, w5, w7]) [] SH M (am_rv (am_rk 236) x) SH M') (h3 : ∀ w1 w3 w5 M, c3 w1 w3 w5 M = some (x, M') → am_R none 236 bk_X9_tellParts 3 (am_wr [56, 2, 0, 2, 0, 2, 0, 0, 0, 0, 0] [w1, w3, w5]) [] SH M (am_rv (am_rk 236) x) SH M') (v1 v3 v5 v7 : Int) (M : am_M) (h : XB_X9_tellParts_53_1 c1 c3 v1 v3 v5 v7 M = some (x, M')) : am_R none 236 bk_X9_tellParts 1 (am_wr [56, 2, 0, 2, 0, 2, 0, 2, 0, 0, 0] [v1, v3, v5, v7]) [] SH M (am_rv (am_rk 236) x) SH M' :=
  vRegion (sc := none) (sh := SH) (F := F_none) (k := 236) (bs := bk_X9_tellParts) (r := (x, M')) (C := fun t lv st M => if t = 1 then vCt [56, 2, 0, 2, 0, 2, 0, 2, 0, 0, 0] (un4 c1) lv st M else if t = 3 then vCt [56, 2, 0, 2, 0, 2, 0, 0, 0, 0, 0] (un3 c3) lv st M else none) ok_X9_tellParts fs_none (fun t lv st M h => by
    split at h
    · rename_i e; subst e; exact vCt_s (un4_s h1) h
    split at h
    · rename_i e; subst e; exact vCt_s (un3_s h3) h
    cases h) 6 1 (am_wr [56, 2, 0, 2, 0, 2, 0, 2, 0, 0, 0] [v1, v3, v5, v7]) [] M h
noncomputable def XB_X9_tellParts_53_3 (v1 v3 v5 : Int) (M : am_M) : am_Rs :=
  if wL v5 ≠ 0 then
  if wL v5 ≠ 0 then
   some (1, (am_up (am_up M 53 9 ((wL v1).tdiv (wL v5))) 53 10 ((wL v3).tdiv (wL v5))))
   else none
  else none
set_option maxRecDepth 100000 in
theorem rs_X9_tellParts_53_3 {x : Int} {M' : am_M} (v1 v3 v5 : Int) (M : am_M) (h : XB_X9_tellParts_53_3 v1 v3 v5 M = some (x, M')) : am_R none 236 bk_X9_tellParts 3 (am_wr [56, 2, 0, 2, 0, 2, 0, 0, 0, 0, 0] [v1, v3, v5]) [] SH M (am_rv (am_rk 236) x) SH M' :=
  vRegion (sc := none) (sh := SH) (F := F_none) (k := 236) (bs := bk_X9_tellParts) (r := (x, M')) (C := fun t lv st M => none) ok_X9_tellParts fs_none (fun t lv st M h => by
    cases h) 6 3 (am_wr [56, 2, 0, 2, 0, 2, 0, 0, 0, 0, 0] [v1, v3, v5]) [] M h
noncomputable def XB_X9_tellParts_53_e (c1 : Int → Int → Int → Int → am_M → am_Rs) (v1 v3 : Int) (M : am_M) : am_Rs :=
  c1 v1 v3 v1 v3 M
set_option maxRecDepth 100000 in
theorem rs_X9_tellParts_53_e {x : Int} {M' : am_M} {c1 : Int → Int → Int → Int → am_M → am_Rs} (h1 : ∀ w1 w3 w5 w7 M, c1 w1 w3 w5 w7 M = some (x, M') → am_R none 236 bk_X9_tellParts 1 (am_wr [56, 2, 0, 2, 0, 2, 0, 2, 0, 0, 0] [w1, w3, w5, w7]) [] SH M (am_rv (am_rk 236) x) SH M') (v1 v3 : Int) (M : am_M) (h : XB_X9_tellParts_53_e c1 v1 v3 M = some (x, M')) : am_R none 236 bk_X9_tellParts 0 (am_ent 11 [.inr (.inr (some 53)), .inr (.inl v1), .inr (.inl v3)]) [] SH M (am_rv (am_rk 236) x) SH M' :=
  vRegion (sc := none) (sh := SH) (F := F_none) (k := 236) (bs := bk_X9_tellParts) (r := (x, M')) (C := fun t lv st M => if t = 1 then vCt [56, 2, 0, 2, 0, 2, 0, 2, 0, 0, 0] (un4 c1) lv st M else none) ok_X9_tellParts fs_none (fun t lv st M h => by
    split at h
    · rename_i e; subst e; exact vCt_s (un4_s h1) h
    cases h) 6 0 (am_ent 11 [.inr (.inr (some 53)), .inr (.inl v1), .inr (.inl v3)]) [] M h
noncomputable def XL_X9_tellParts_53_1 (k3 : Int → Int → Int → am_M → am_Rs) : Nat → Int → Int → Int → Int → am_M → am_Rs
  | 0, _, _, _, _, _ => none
  | n + 1, v1, v3, v5, v7, M => XB_X9_tellParts_53_1 (XL_X9_tellParts_53_1 k3 n) k3 v1 v3 v5 v7 M
theorem ls_X9_tellParts_53_1 {x : Int} {M' : am_M} {k3 : Int → Int → Int → am_M → am_Rs} (hk3 : ∀ w1 w3 w5 M, k3 w1 w3 w5 M = some (x, M') → am_R none 236 bk_X9_tellParts 3 (am_wr [56, 2, 0, 2, 0, 2, 0, 0, 0, 0, 0] [w1, w3, w5]) [] SH M (am_rv (am_rk 236) x) SH M') : ∀ (n : Nat) (v1 v3 v5 v7 : Int) (M : am_M), XL_X9_tellParts_53_1 k3 n v1 v3 v5 v7 M = some (x, M') → am_R none 236 bk_X9_tellParts 1 (am_wr [56, 2, 0, 2, 0, 2, 0, 2, 0, 0, 0] [v1, v3, v5, v7]) [] SH M (am_rv (am_rk 236) x) SH M'
  | 0, v1, v3, v5, v7, M, h => by cases h
  | n + 1, v1, v3, v5, v7, M, h => rs_X9_tellParts_53_1 (ls_X9_tellParts_53_1 hk3 n) hk3 v1 v3 v5 v7 M h
noncomputable def X_X9_tellParts_53 (v1 v3 : Int) (M : am_M) : am_Rs := XB_X9_tellParts_53_e (XL_X9_tellParts_53_1 (XB_X9_tellParts_53_3) 1000) v1 v3 M
theorem dc_X9_tellParts_53 (v1 v3 : Int) (M M' : am_M) (x : Int) (h : X_X9_tellParts_53 v1 v3 M = some (x, M')) : am_Calls 236 [.inr (.inr (some 53)), .inr (.inl v1), .inr (.inl v3)] SH M (am_rv (am_rk 236) x) SH M' :=
  am_enter pn_X9_tellParts ml_X9_tellParts rfl (Nat.le_of_ble_eq_true rfl) ⟨Nat.le_refl _, Nat.le_refl _⟩ (rs_X9_tellParts_53_e (ls_X9_tellParts_53_1 (rs_X9_tellParts_53_3) 1000) v1 v3 M h)
noncomputable def F_X9_odds_53 : Nat → List am_V → am_M → am_Rs := fun k as M => if k = 168 then (match as with
  | [.inr (.inl a0), .inr (.inl a2), .inr (.inl a4)] => X_X9_in a0 a2 a4 M
  | _ => none) else if k = 217 then (match as with
  | [.inr (.inr (some 53)), .inl a1] => X_X9_isPlace_53 a1 M
  | _ => none) else if k = 236 then (match as with
  | [.inr (.inr (some 53)), .inr (.inl a1), .inr (.inl a3)] => X_X9_tellParts_53 a1 a3 M
  | _ => none) else if k = 242 then (match as with
  | [.inr (.inr (some 53)), .inl a1, .inl a2, .inl a3] => X_X9_layChances_53 a1 a2 a3 M
  | _ => none) else if k = 243 then (match as with
  | [.inl a0] => X_X9_sixteen a0 M
  | _ => none) else none
theorem fs_X9_odds_53 : am_FS SH F_X9_odds_53 := by
  intro k as M x M' h
  unfold F_X9_odds_53 at h
  split at h
  · rename_i hk; subst hk
    split at h
    · exact dc_X9_in _ _ _ _ _ _ h
    · cases h
  split at h
  · rename_i hk; subst hk
    split at h
    · exact dc_X9_isPlace_53 _ _ _ _ h
    · cases h
  split at h
  · rename_i hk; subst hk
    split at h
    · exact dc_X9_tellParts_53 _ _ _ _ _ h
    · cases h
  split at h
  · rename_i hk; subst hk
    split at h
    · exact dc_X9_layChances_53 _ _ _ _ _ _ h
    · cases h
  split at h
  · rename_i hk; subst hk
    split at h
    · exact dc_X9_sixteen _ _ _ _ h
    · cases h
  cases h
noncomputable def X_X9_odds_53 (v1 v2 : Int) (M : am_M) : am_Rs :=
  (X_X9_isPlace_53 v1 M).bind fun z1 =>
  if wI z1.1 = 0 then
   some ((-1), z1.2)
  else (X_X9_in (wI v2) 0 6 z1.2).bind fun z2 =>
  if wI z2.1 = 0 then
   some ((-1), z2.2)
  else if wI (z2.2 53 1) = 0 then
   some ((-4), z2.2)
  else (X_X9_layChances_53 v2 (-1) (-1) z2.2).bind fun z3 =>
  if 0 ≤ wI v1 ∧ wI v1 < 13 then
  (X_X9_sixteen v2 z3.2).bind fun z4 =>
   (X_X9_tellParts_53 (z3.2 66 (wI v1).toNat) z4.1 z4.2).bind fun z5 =>
   some (z5.1, z5.2)
  else none
set_option maxRecDepth 100000 in
theorem dc_X9_odds_53 (v1 v2 : Int) (M M' : am_M) (x : Int) (h : X_X9_odds_53 v1 v2 M = some (x, M')) : am_Calls 244 [.inr (.inr (some 53)), .inl v1, .inl v2] SH M (am_rv (am_rk 244) x) SH M' :=
  vCall (F := F_X9_odds_53) (C := fun _ _ _ _ => none) (fu := 8) ok_X9_odds pn_X9_odds ml_X9_odds rfl (Nat.le_of_ble_eq_true rfl) fs_X9_odds_53 (fun _ _ _ _ h => by cases h) h
noncomputable def F_X9_met_53 : Nat → List am_V → am_M → am_Rs := fun k as M => if k = 168 then (match as with
  | [.inr (.inl a0), .inr (.inl a2), .inr (.inl a4)] => X_X9_in a0 a2 a4 M
  | _ => none) else if k = 217 then (match as with
  | [.inr (.inr (some 53)), .inl a1] => X_X9_isPlace_53 a1 M
  | _ => none) else if k = 236 then (match as with
  | [.inr (.inr (some 53)), .inr (.inl a1), .inr (.inl a3)] => X_X9_tellParts_53 a1 a3 M
  | _ => none) else if k = 242 then (match as with
  | [.inr (.inr (some 53)), .inl a1, .inl a2, .inl a3] => X_X9_layChances_53 a1 a2 a3 M
  | _ => none) else if k = 243 then (match as with
  | [.inl a0] => X_X9_sixteen a0 M
  | _ => none) else none
theorem fs_X9_met_53 : am_FS SH F_X9_met_53 := by
  intro k as M x M' h
  unfold F_X9_met_53 at h
  split at h
  · rename_i hk; subst hk
    split at h
    · exact dc_X9_in _ _ _ _ _ _ h
    · cases h
  split at h
  · rename_i hk; subst hk
    split at h
    · exact dc_X9_isPlace_53 _ _ _ _ h
    · cases h
  split at h
  · rename_i hk; subst hk
    split at h
    · exact dc_X9_tellParts_53 _ _ _ _ _ h
    · cases h
  split at h
  · rename_i hk; subst hk
    split at h
    · exact dc_X9_layChances_53 _ _ _ _ _ _ h
    · cases h
  split at h
  · rename_i hk; subst hk
    split at h
    · exact dc_X9_sixteen _ _ _ _ h
    · cases h
  cases h
noncomputable def X_X9_met_53 (v1 v2 : Int) (M : am_M) : am_Rs :=
  (X_X9_isPlace_53 v1 M).bind fun z1 =>
  if wI z1.1 = 0 then
   some ((-1), z1.2)
  else (X_X9_in (wI v2) 0 6 z1.2).bind fun z2 =>
  if wI z2.1 = 0 then
   some ((-1), z2.2)
  else if wI (z2.2 53 1) = 0 then
   some ((-4), z2.2)
  else (X_X9_layChances_53 v2 v1 (-1) z2.2).bind fun z3 =>
  if 0 ≤ wI v1 ∧ wI v1 < 13 then
  (X_X9_sixteen v2 z3.2).bind fun z4 =>
   (X_X9_tellParts_53 (z3.2 66 (wI v1).toNat) z4.1 z4.2).bind fun z5 =>
   some (z5.1, z5.2)
  else none
set_option maxRecDepth 100000 in
theorem dc_X9_met_53 (v1 v2 : Int) (M M' : am_M) (x : Int) (h : X_X9_met_53 v1 v2 M = some (x, M')) : am_Calls 245 [.inr (.inr (some 53)), .inl v1, .inl v2] SH M (am_rv (am_rk 245) x) SH M' :=
  vCall (F := F_X9_met_53) (C := fun _ _ _ _ => none) (fu := 8) ok_X9_met pn_X9_met ml_X9_met rfl (Nat.le_of_ble_eq_true rfl) fs_X9_met_53 (fun _ _ _ _ h => by cases h) h
noncomputable def F_X9_hedge_53 : Nat → List am_V → am_M → am_Rs := fun k as M => if k = 168 then (match as with
  | [.inr (.inl a0), .inr (.inl a2), .inr (.inl a4)] => X_X9_in a0 a2 a4 M
  | _ => none) else if k = 194 then (match as with
  | [.inr (.inr (some 53)), .inl a1] => X_X9_isStrip_53 a1 M
  | _ => none) else if k = 236 then (match as with
  | [.inr (.inr (some 53)), .inr (.inl a1), .inr (.inl a3)] => X_X9_tellParts_53 a1 a3 M
  | _ => none) else if k = 242 then (match as with
  | [.inr (.inr (some 53)), .inl a1, .inl a2, .inl a3] => X_X9_layChances_53 a1 a2 a3 M
  | _ => none) else if k = 243 then (match as with
  | [.inl a0] => X_X9_sixteen a0 M
  | _ => none) else none
theorem fs_X9_hedge_53 : am_FS SH F_X9_hedge_53 := by
  intro k as M x M' h
  unfold F_X9_hedge_53 at h
  split at h
  · rename_i hk; subst hk
    split at h
    · exact dc_X9_in _ _ _ _ _ _ h
    · cases h
  split at h
  · rename_i hk; subst hk
    split at h
    · exact dc_X9_isStrip_53 _ _ _ _ h
    · cases h
  split at h
  · rename_i hk; subst hk
    split at h
    · exact dc_X9_tellParts_53 _ _ _ _ _ h
    · cases h
  split at h
  · rename_i hk; subst hk
    split at h
    · exact dc_X9_layChances_53 _ _ _ _ _ _ h
    · cases h
  split at h
  · rename_i hk; subst hk
    split at h
    · exact dc_X9_sixteen _ _ _ _ h
    · cases h
  cases h
noncomputable def X_X9_hedge_53 (v1 v2 : Int) (M : am_M) : am_Rs :=
  (X_X9_isStrip_53 v1 M).bind fun z1 =>
  if wI z1.1 = 0 then
   some ((-1), z1.2)
  else (X_X9_in (wI v2) 0 6 z1.2).bind fun z2 =>
  if wI z2.1 = 0 then
   some ((-1), z2.2)
  else (X_X9_layChances_53 v2 (-1) v1 z2.2).bind fun z3 =>
  (X_X9_sixteen v2 z3.2).bind fun z4 =>
  (X_X9_tellParts_53 (z3.2 53 27) z4.1 z4.2).bind fun z5 =>
  some (z5.1, z5.2)
set_option maxRecDepth 100000 in
theorem dc_X9_hedge_53 (v1 v2 : Int) (M M' : am_M) (x : Int) (h : X_X9_hedge_53 v1 v2 M = some (x, M')) : am_Calls 246 [.inr (.inr (some 53)), .inl v1, .inl v2] SH M (am_rv (am_rk 246) x) SH M' :=
  vCall (F := F_X9_hedge_53) (C := fun _ _ _ _ => none) (fu := 6) ok_X9_hedge pn_X9_hedge ml_X9_hedge rfl (Nat.le_of_ble_eq_true rfl) fs_X9_hedge_53 (fun _ _ _ _ h => by cases h) h
noncomputable def F_X9_isGame : Nat → List am_V → am_M → am_Rs := fun k as M => if k = 168 then (match as with
  | [.inr (.inl a0), .inr (.inl a2), .inr (.inl a4)] => X_X9_in a0 a2 a4 M
  | _ => none) else none
theorem fs_X9_isGame : am_FS SH F_X9_isGame := by
  intro k as M x M' h
  unfold F_X9_isGame at h
  split at h
  · rename_i hk; subst hk
    split at h
    · exact dc_X9_in _ _ _ _ _ _ h
    · cases h
  cases h
noncomputable def X_X9_isGame (v0 v1 v2 : Int) (M : am_M) : am_Rs :=
  (X_X9_in (wI v0) (wI v2) 4 M).bind fun z1 =>
  if wI z1.1 = 0 then
   some (0, z1.2)
  else (X_X9_in (wI v1) 0 9 z1.2).bind fun z2 =>
  if wI z2.1 = 0 then
   some (0, z2.2)
  else some (1, z2.2)
set_option maxRecDepth 100000 in
theorem dc_X9_isGame (v0 v1 v2 : Int) (M M' : am_M) (x : Int) (h : X_X9_isGame v0 v1 v2 M = some (x, M')) : am_Calls 252 [.inl v0, .inl v1, .inl v2] SH M (am_rv (am_rk 252) x) SH M' :=
  vCall (F := F_X9_isGame) (C := fun _ _ _ _ => none) (fu := 7) ok_X9_isGame pn_X9_isGame ml_X9_isGame rfl (Nat.le_of_ble_eq_true rfl) fs_X9_isGame (fun _ _ _ _ h => by cases h) h
noncomputable def F_X9_gameBy_53 : Nat → List am_V → am_M → am_Rs := fun k as M => if k = 196 then (match as with
  | [.inr (.inr (some 53)), .inl a1, .inl a2, .inl a3, .inl a4] => X_X9_behind_53 a1 a2 a3 a4 M
  | _ => none) else none
theorem fs_X9_gameBy_53 : am_FS SH F_X9_gameBy_53 := by
  intro k as M x M' h
  unfold F_X9_gameBy_53 at h
  split at h
  · rename_i hk; subst hk
    split at h
    · exact dc_X9_behind_53 _ _ _ _ _ _ _ h
    · cases h
  cases h
noncomputable def X_X9_gameBy_53 (v1 v2 v3 v4 : Int) (M : am_M) : am_Rs :=
  (X_X9_behind_53 v2 ((M 54 0) + v1) v3 v4 M).bind fun z1 =>
  if 0 ≤ wI ((13 * (v1 + 1)) + z1.1) ∧ wI ((13 * (v1 + 1)) + z1.1) < 65 then
  some (((z1.2 53 30) * (v3 - v4)) + (z1.2 68 (wI ((13 * (v1 + 1)) + z1.1)).toNat), z1.2)
  else none
set_option maxRecDepth 100000 in
theorem dc_X9_gameBy_53 (v1 v2 v3 v4 : Int) (M M' : am_M) (x : Int) (h : X_X9_gameBy_53 v1 v2 v3 v4 M = some (x, M')) : am_Calls 247 [.inr (.inr (some 53)), .inl v1, .inl v2, .inl v3, .inl v4] SH M (am_rv (am_rk 247) x) SH M' :=
  vCall (F := F_X9_gameBy_53) (C := fun _ _ _ _ => none) (fu := 3) ok_X9_gameBy pn_X9_gameBy ml_X9_gameBy rfl (Nat.le_of_ble_eq_true rfl) fs_X9_gameBy_53 (fun _ _ _ _ h => by cases h) h
noncomputable def F_X9_answerTo_53 : Nat → List am_V → am_M → am_Rs := fun k as M => if k = 247 then (match as with
  | [.inr (.inr (some 53)), .inl a1, .inl a2, .inl a3, .inl a4] => X_X9_gameBy_53 a1 a2 a3 a4 M
  | _ => none) else none
theorem fs_X9_answerTo_53 : am_FS SH F_X9_answerTo_53 := by
  intro k as M x M' h
  unfold F_X9_answerTo_53 at h
  split at h
  · rename_i hk; subst hk
    split at h
    · exact dc_X9_gameBy_53 _ _ _ _ _ _ _ h
    · cases h
  cases h
noncomputable def XB_X9_answerTo_53_1 (c1 : Int → Int → Int → Int → Int → am_M → am_Rs) (c6 : Int → am_M → am_Rs) (v1 v2 v3 v4 v5 : Int) (M : am_M) : am_Rs :=
  if wI v5 < 4 then
   (X_X9_gameBy_53 v1 v2 v3 v5 M).bind fun z1 =>
   (X_X9_gameBy_53 v1 v2 v3 v4 z1.2).bind fun z2 =>
   if wI z1.1 < wI z2.1 then
    c1 v1 v2 v3 v5 (v5 + 1) z2.2
   else c1 v1 v2 v3 v4 (v5 + 1) z2.2
  else c6 v4 M
set_option maxRecDepth 100000 in
theorem rs_X9_answerTo_53_1 {x : Int} {M' : am_M} {c1 : Int → Int → Int → Int → Int → am_M → am_Rs} {c6 : Int → am_M → am_Rs} (h1 : ∀ w1 w2 w3 w4 w5 M, c1 w1 w2 w3 w4 w5 M = some (x, M') → am_R none 248 bk_X9_answerTo 1 (am_wr [56, 1, 1, 1, 1, 1] [w1, w2, w3, w4, w5]) [] SH M (am_rv (am_rk 248) x) SH M') (h6 : ∀ w4 M, c6 w4 M = some (x, M') → am_R none 248 bk_X9_answerTo 6 (am_wr [0, 0, 0, 0, 1, 0] [w4]) [] SH M (am_rv (am_rk 248) x) SH M') (v1 v2 v3 v4 v5 : Int) (M : am_M) (h : XB_X9_answerTo_53_1 c1 c6 v1 v2 v3 v4 v5 M = some (x, M')) : am_R none 248 bk_X9_answerTo 1 (am_wr [56, 1, 1, 1, 1, 1] [v1, v2, v3, v4, v5]) [] SH M (am_rv (am_rk 248) x) SH M' :=
  vRegion (sc := none) (sh := SH) (F := F_X9_answerTo_53) (k := 248) (bs := bk_X9_answerTo) (r := (x, M')) (C := fun t lv st M => if t = 1 then vCt [56, 1, 1, 1, 1, 1] (un5 c1) lv st M else if t = 6 then vCt [0, 0, 0, 0, 1, 0] (un1 c6) lv st M else none) ok_X9_answerTo fs_X9_answerTo_53 (fun t lv st M h => by
    split at h
    · rename_i e; subst e; exact vCt_s (un5_s h1) h
    split at h
    · rename_i e; subst e; exact vCt_s (un1_s h6) h
    cases h) 9 1 (am_wr [56, 1, 1, 1, 1, 1] [v1, v2, v3, v4, v5]) [] M h
noncomputable def XB_X9_answerTo_53_6 (v4 : Int) (M : am_M) : am_Rs :=
  some (v4, M)
set_option maxRecDepth 100000 in
theorem rs_X9_answerTo_53_6 {x : Int} {M' : am_M} (v4 : Int) (M : am_M) (h : XB_X9_answerTo_53_6 v4 M = some (x, M')) : am_R none 248 bk_X9_answerTo 6 (am_wr [0, 0, 0, 0, 1, 0] [v4]) [] SH M (am_rv (am_rk 248) x) SH M' :=
  vRegion (sc := none) (sh := SH) (F := F_X9_answerTo_53) (k := 248) (bs := bk_X9_answerTo) (r := (x, M')) (C := fun t lv st M => none) ok_X9_answerTo fs_X9_answerTo_53 (fun t lv st M h => by
    cases h) 9 6 (am_wr [0, 0, 0, 0, 1, 0] [v4]) [] M h
noncomputable def XB_X9_answerTo_53_e (c1 : Int → Int → Int → Int → Int → am_M → am_Rs) (v1 v2 v3 : Int) (M : am_M) : am_Rs :=
  c1 v1 v2 v3 0 1 M
set_option maxRecDepth 100000 in
theorem rs_X9_answerTo_53_e {x : Int} {M' : am_M} {c1 : Int → Int → Int → Int → Int → am_M → am_Rs} (h1 : ∀ w1 w2 w3 w4 w5 M, c1 w1 w2 w3 w4 w5 M = some (x, M') → am_R none 248 bk_X9_answerTo 1 (am_wr [56, 1, 1, 1, 1, 1] [w1, w2, w3, w4, w5]) [] SH M (am_rv (am_rk 248) x) SH M') (v1 v2 v3 : Int) (M : am_M) (h : XB_X9_answerTo_53_e c1 v1 v2 v3 M = some (x, M')) : am_R none 248 bk_X9_answerTo 0 (am_ent 6 [.inr (.inr (some 53)), .inl v1, .inl v2, .inl v3]) [] SH M (am_rv (am_rk 248) x) SH M' :=
  vRegion (sc := none) (sh := SH) (F := F_X9_answerTo_53) (k := 248) (bs := bk_X9_answerTo) (r := (x, M')) (C := fun t lv st M => if t = 1 then vCt [56, 1, 1, 1, 1, 1] (un5 c1) lv st M else none) ok_X9_answerTo fs_X9_answerTo_53 (fun t lv st M h => by
    split at h
    · rename_i e; subst e; exact vCt_s (un5_s h1) h
    cases h) 9 0 (am_ent 6 [.inr (.inr (some 53)), .inl v1, .inl v2, .inl v3]) [] M h
noncomputable def XL_X9_answerTo_53_1 (k6 : Int → am_M → am_Rs) : Nat → Int → Int → Int → Int → Int → am_M → am_Rs
  | 0, _, _, _, _, _, _ => none
  | n + 1, v1, v2, v3, v4, v5, M => XB_X9_answerTo_53_1 (XL_X9_answerTo_53_1 k6 n) k6 v1 v2 v3 v4 v5 M
theorem ls_X9_answerTo_53_1 {x : Int} {M' : am_M} {k6 : Int → am_M → am_Rs} (hk6 : ∀ w4 M, k6 w4 M = some (x, M') → am_R none 248 bk_X9_answerTo 6 (am_wr [0, 0, 0, 0, 1, 0] [w4]) [] SH M (am_rv (am_rk 248) x) SH M') : ∀ (n : Nat) (v1 v2 v3 v4 v5 : Int) (M : am_M), XL_X9_answerTo_53_1 k6 n v1 v2 v3 v4 v5 M = some (x, M') → am_R none 248 bk_X9_answerTo 1 (am_wr [56, 1, 1, 1, 1, 1] [v1, v2, v3, v4, v5]) [] SH M (am_rv (am_rk 248) x) SH M'
  | 0, v1, v2, v3, v4, v5, M, h => by cases h
  | n + 1, v1, v2, v3, v4, v5, M, h => rs_X9_answerTo_53_1 (ls_X9_answerTo_53_1 hk6 n) hk6 v1 v2 v3 v4 v5 M h
noncomputable def X_X9_answerTo_53 (v1 v2 v3 : Int) (M : am_M) : am_Rs := XB_X9_answerTo_53_e (XL_X9_answerTo_53_1 (XB_X9_answerTo_53_6) 1000) v1 v2 v3 M
theorem dc_X9_answerTo_53 (v1 v2 v3 : Int) (M M' : am_M) (x : Int) (h : X_X9_answerTo_53 v1 v2 v3 M = some (x, M')) : am_Calls 248 [.inr (.inr (some 53)), .inl v1, .inl v2, .inl v3] SH M (am_rv (am_rk 248) x) SH M' :=
  am_enter pn_X9_answerTo ml_X9_answerTo rfl (Nat.le_of_ble_eq_true rfl) ⟨Nat.le_refl _, Nat.le_refl _⟩ (rs_X9_answerTo_53_e (ls_X9_answerTo_53_1 (rs_X9_answerTo_53_6) 1000) v1 v2 v3 M h)
noncomputable def F_X9_valueOf_53 : Nat → List am_V → am_M → am_Rs := fun k as M => if k = 247 then (match as with
  | [.inr (.inr (some 53)), .inl a1, .inl a2, .inl a3, .inl a4] => X_X9_gameBy_53 a1 a2 a3 a4 M
  | _ => none) else if k = 248 then (match as with
  | [.inr (.inr (some 53)), .inl a1, .inl a2, .inl a3] => X_X9_answerTo_53 a1 a2 a3 M
  | _ => none) else none
theorem fs_X9_valueOf_53 : am_FS SH F_X9_valueOf_53 := by
  intro k as M x M' h
  unfold F_X9_valueOf_53 at h
  split at h
  · rename_i hk; subst hk
    split at h
    · exact dc_X9_gameBy_53 _ _ _ _ _ _ _ h
    · cases h
  split at h
  · rename_i hk; subst hk
    split at h
    · exact dc_X9_answerTo_53 _ _ _ _ _ _ h
    · cases h
  cases h
noncomputable def X_X9_valueOf_53 (v1 v2 v3 : Int) (M : am_M) : am_Rs :=
  (X_X9_answerTo_53 v1 v2 v3 M).bind fun z1 =>
  (X_X9_gameBy_53 v1 v2 v3 z1.1 z1.2).bind fun z2 =>
  some (z2.1, z2.2)
set_option maxRecDepth 100000 in
theorem dc_X9_valueOf_53 (v1 v2 v3 : Int) (M M' : am_M) (x : Int) (h : X_X9_valueOf_53 v1 v2 v3 M = some (x, M')) : am_Calls 249 [.inr (.inr (some 53)), .inl v1, .inl v2, .inl v3] SH M (am_rv (am_rk 249) x) SH M' :=
  vCall (F := F_X9_valueOf_53) (C := fun _ _ _ _ => none) (fu := 3) ok_X9_valueOf pn_X9_valueOf ml_X9_valueOf rfl (Nat.le_of_ble_eq_true rfl) fs_X9_valueOf_53 (fun _ _ _ _ h => by cases h) h
noncomputable def F_X9_firstTo_53 : Nat → List am_V → am_M → am_Rs := fun k as M => if k = 249 then (match as with
  | [.inr (.inr (some 53)), .inl a1, .inl a2, .inl a3] => X_X9_valueOf_53 a1 a2 a3 M
  | _ => none) else none
theorem fs_X9_firstTo_53 : am_FS SH F_X9_firstTo_53 := by
  intro k as M x M' h
  unfold F_X9_firstTo_53 at h
  split at h
  · rename_i hk; subst hk
    split at h
    · exact dc_X9_valueOf_53 _ _ _ _ _ _ h
    · cases h
  cases h
noncomputable def XB_X9_firstTo_53_1 (c1 : Int → Int → Int → Int → am_M → am_Rs) (c6 : Int → am_M → am_Rs) (v1 v2 v3 v4 : Int) (M : am_M) : am_Rs :=
  if wI v4 < 4 then
   (X_X9_valueOf_53 v1 v2 v4 M).bind fun z1 =>
   (X_X9_valueOf_53 v1 v2 v3 z1.2).bind fun z2 =>
   if wI z2.1 < wI z1.1 then
    c1 v1 v2 v4 (v4 + 1) z2.2
   else c1 v1 v2 v3 (v4 + 1) z2.2
  else c6 v3 M
set_option maxRecDepth 100000 in
theorem rs_X9_firstTo_53_1 {x : Int} {M' : am_M} {c1 : Int → Int → Int → Int → am_M → am_Rs} {c6 : Int → am_M → am_Rs} (h1 : ∀ w1 w2 w3 w4 M, c1 w1 w2 w3 w4 M = some (x, M') → am_R none 250 bk_X9_firstTo 1 (am_wr [56, 1, 1, 1, 1] [w1, w2, w3, w4]) [] SH M (am_rv (am_rk 250) x) SH M') (h6 : ∀ w3 M, c6 w3 M = some (x, M') → am_R none 250 bk_X9_firstTo 6 (am_wr [0, 0, 0, 1, 0] [w3]) [] SH M (am_rv (am_rk 250) x) SH M') (v1 v2 v3 v4 : Int) (M : am_M) (h : XB_X9_firstTo_53_1 c1 c6 v1 v2 v3 v4 M = some (x, M')) : am_R none 250 bk_X9_firstTo 1 (am_wr [56, 1, 1, 1, 1] [v1, v2, v3, v4]) [] SH M (am_rv (am_rk 250) x) SH M' :=
  vRegion (sc := none) (sh := SH) (F := F_X9_firstTo_53) (k := 250) (bs := bk_X9_firstTo) (r := (x, M')) (C := fun t lv st M => if t = 1 then vCt [56, 1, 1, 1, 1] (un4 c1) lv st M else if t = 6 then vCt [0, 0, 0, 1, 0] (un1 c6) lv st M else none) ok_X9_firstTo fs_X9_firstTo_53 (fun t lv st M h => by
    split at h
    · rename_i e; subst e; exact vCt_s (un4_s h1) h
    split at h
    · rename_i e; subst e; exact vCt_s (un1_s h6) h
    cases h) 9 1 (am_wr [56, 1, 1, 1, 1] [v1, v2, v3, v4]) [] M h
noncomputable def XB_X9_firstTo_53_6 (v3 : Int) (M : am_M) : am_Rs :=
  some (v3, M)
set_option maxRecDepth 100000 in
theorem rs_X9_firstTo_53_6 {x : Int} {M' : am_M} (v3 : Int) (M : am_M) (h : XB_X9_firstTo_53_6 v3 M = some (x, M')) : am_R none 250 bk_X9_firstTo 6 (am_wr [0, 0, 0, 1, 0] [v3]) [] SH M (am_rv (am_rk 250) x) SH M' :=
  vRegion (sc := none) (sh := SH) (F := F_X9_firstTo_53) (k := 250) (bs := bk_X9_firstTo) (r := (x, M')) (C := fun t lv st M => none) ok_X9_firstTo fs_X9_firstTo_53 (fun t lv st M h => by
    cases h) 9 6 (am_wr [0, 0, 0, 1, 0] [v3]) [] M h
noncomputable def XB_X9_firstTo_53_e (c1 : Int → Int → Int → Int → am_M → am_Rs) (v1 v2 : Int) (M : am_M) : am_Rs :=
  c1 v1 v2 0 1 M
set_option maxRecDepth 100000 in
theorem rs_X9_firstTo_53_e {x : Int} {M' : am_M} {c1 : Int → Int → Int → Int → am_M → am_Rs} (h1 : ∀ w1 w2 w3 w4 M, c1 w1 w2 w3 w4 M = some (x, M') → am_R none 250 bk_X9_firstTo 1 (am_wr [56, 1, 1, 1, 1] [w1, w2, w3, w4]) [] SH M (am_rv (am_rk 250) x) SH M') (v1 v2 : Int) (M : am_M) (h : XB_X9_firstTo_53_e c1 v1 v2 M = some (x, M')) : am_R none 250 bk_X9_firstTo 0 (am_ent 5 [.inr (.inr (some 53)), .inl v1, .inl v2]) [] SH M (am_rv (am_rk 250) x) SH M' :=
  vRegion (sc := none) (sh := SH) (F := F_X9_firstTo_53) (k := 250) (bs := bk_X9_firstTo) (r := (x, M')) (C := fun t lv st M => if t = 1 then vCt [56, 1, 1, 1, 1] (un4 c1) lv st M else none) ok_X9_firstTo fs_X9_firstTo_53 (fun t lv st M h => by
    split at h
    · rename_i e; subst e; exact vCt_s (un4_s h1) h
    cases h) 9 0 (am_ent 5 [.inr (.inr (some 53)), .inl v1, .inl v2]) [] M h
noncomputable def XL_X9_firstTo_53_1 (k6 : Int → am_M → am_Rs) : Nat → Int → Int → Int → Int → am_M → am_Rs
  | 0, _, _, _, _, _ => none
  | n + 1, v1, v2, v3, v4, M => XB_X9_firstTo_53_1 (XL_X9_firstTo_53_1 k6 n) k6 v1 v2 v3 v4 M
theorem ls_X9_firstTo_53_1 {x : Int} {M' : am_M} {k6 : Int → am_M → am_Rs} (hk6 : ∀ w3 M, k6 w3 M = some (x, M') → am_R none 250 bk_X9_firstTo 6 (am_wr [0, 0, 0, 1, 0] [w3]) [] SH M (am_rv (am_rk 250) x) SH M') : ∀ (n : Nat) (v1 v2 v3 v4 : Int) (M : am_M), XL_X9_firstTo_53_1 k6 n v1 v2 v3 v4 M = some (x, M') → am_R none 250 bk_X9_firstTo 1 (am_wr [56, 1, 1, 1, 1] [v1, v2, v3, v4]) [] SH M (am_rv (am_rk 250) x) SH M'
  | 0, v1, v2, v3, v4, M, h => by cases h
  | n + 1, v1, v2, v3, v4, M, h => rs_X9_firstTo_53_1 (ls_X9_firstTo_53_1 hk6 n) hk6 v1 v2 v3 v4 M h
noncomputable def X_X9_firstTo_53 (v1 v2 : Int) (M : am_M) : am_Rs := XB_X9_firstTo_53_e (XL_X9_firstTo_53_1 (XB_X9_firstTo_53_6) 1000) v1 v2 M
theorem dc_X9_firstTo_53 (v1 v2 : Int) (M M' : am_M) (x : Int) (h : X_X9_firstTo_53 v1 v2 M = some (x, M')) : am_Calls 250 [.inr (.inr (some 53)), .inl v1, .inl v2] SH M (am_rv (am_rk 250) x) SH M' :=
  am_enter pn_X9_firstTo ml_X9_firstTo rfl (Nat.le_of_ble_eq_true rfl) ⟨Nat.le_refl _, Nat.le_refl _⟩ (rs_X9_firstTo_53_e (ls_X9_firstTo_53_1 (rs_X9_firstTo_53_6) 1000) v1 v2 M h)
noncomputable def F_X9_layGames_53 : Nat → List am_V → am_M → am_Rs := fun k as M => if k = 249 then (match as with
  | [.inr (.inr (some 53)), .inl a1, .inl a2, .inl a3] => X_X9_valueOf_53 a1 a2 a3 M
  | _ => none) else if k = 250 then (match as with
  | [.inr (.inr (some 53)), .inl a1, .inl a2] => X_X9_firstTo_53 a1 a2 M
  | _ => none) else none
theorem fs_X9_layGames_53 : am_FS SH F_X9_layGames_53 := by
  intro k as M x M' h
  unfold F_X9_layGames_53 at h
  split at h
  · rename_i hk; subst hk
    split at h
    · exact dc_X9_valueOf_53 _ _ _ _ _ _ h
    · cases h
  split at h
  · rename_i hk; subst hk
    split at h
    · exact dc_X9_firstTo_53 _ _ _ _ _ h
    · cases h
  cases h
noncomputable def XB_X9_layGames_53_1 (c1 : Int → Int → am_M → am_Rs) (c3 : Int → am_M → am_Rs) (v1 v3 : Int) (M : am_M) : am_Rs :=
  if wI (M 53 1) < wI v3 then
   c3 v1 M
  else if 0 ≤ wI ((13 * v1) + v3) ∧ wI ((13 * v1) + v3) < 65 then
  c1 v1 (v3 + 1) (am_up M 68 (wI ((13 * v1) + v3)).toNat ((2 * v3) - (M 53 1)))
  else none
set_option maxRecDepth 100000 in
theorem rs_X9_layGames_53_1 {x : Int} {M' : am_M} {c1 : Int → Int → am_M → am_Rs} {c3 : Int → am_M → am_Rs} (h1 : ∀ w1 w3 M, c1 w1 w3 M = some (x, M') → am_R none 251 bk_X9_layGames 1 (am_wr [56, 1, 0, 1, 0] [w1, w3]) [] SH M (am_rv (am_rk 251) x) SH M') (h3 : ∀ w1 M, c3 w1 M = some (x, M') → am_R none 251 bk_X9_layGames 3 (am_wr [56, 1, 0, 0, 0] [w1]) [] SH M (am_rv (am_rk 251) x) SH M') (v1 v3 : Int) (M : am_M) (h : XB_X9_layGames_53_1 c1 c3 v1 v3 M = some (x, M')) : am_R none 251 bk_X9_layGames 1 (am_wr [56, 1, 0, 1, 0] [v1, v3]) [] SH M (am_rv (am_rk 251) x) SH M' :=
  vRegion (sc := none) (sh := SH) (F := F_X9_layGames_53) (k := 251) (bs := bk_X9_layGames) (r := (x, M')) (C := fun t lv st M => if t = 1 then vCt [56, 1, 0, 1, 0] (un2 c1) lv st M else if t = 3 then vCt [56, 1, 0, 0, 0] (un1 c3) lv st M else none) ok_X9_layGames fs_X9_layGames_53 (fun t lv st M h => by
    split at h
    · rename_i e; subst e; exact vCt_s (un2_s h1) h
    split at h
    · rename_i e; subst e; exact vCt_s (un1_s h3) h
    cases h) 12 1 (am_wr [56, 1, 0, 1, 0] [v1, v3]) [] M h
noncomputable def XB_X9_layGames_53_3 (c4 : Int → am_M → am_Rs) (v1 : Int) (M : am_M) : am_Rs :=
  c4 (v1 - 1) M
set_option maxRecDepth 100000 in
theorem rs_X9_layGames_53_3 {x : Int} {M' : am_M} {c4 : Int → am_M → am_Rs} (h4 : ∀ w3 M, c4 w3 M = some (x, M') → am_R none 251 bk_X9_layGames 4 (am_wr [56, 0, 0, 1, 0] [w3]) [] SH M (am_rv (am_rk 251) x) SH M') (v1 : Int) (M : am_M) (h : XB_X9_layGames_53_3 c4 v1 M = some (x, M')) : am_R none 251 bk_X9_layGames 3 (am_wr [56, 1, 0, 0, 0] [v1]) [] SH M (am_rv (am_rk 251) x) SH M' :=
  vRegion (sc := none) (sh := SH) (F := F_X9_layGames_53) (k := 251) (bs := bk_X9_layGames) (r := (x, M')) (C := fun t lv st M => if t = 4 then vCt [56, 0, 0, 1, 0] (un1 c4) lv st M else none) ok_X9_layGames fs_X9_layGames_53 (fun t lv st M h => by
    split at h
    · rename_i e; subst e; exact vCt_s (un1_s h4) h
    cases h) 12 3 (am_wr [56, 1, 0, 0, 0] [v1]) [] M h
noncomputable def XB_X9_layGames_53_4 (c6 : Int → Int → am_M → am_Rs) (c9 : am_M → am_Rs) (v3 : Int) (M : am_M) : am_Rs :=
  if wI v3 < 0 then
   c9 M
  else c6 v3 0 M
set_option maxRecDepth 100000 in
theorem rs_X9_layGames_53_4 {x : Int} {M' : am_M} {c6 : Int → Int → am_M → am_Rs} {c9 : am_M → am_Rs} (h6 : ∀ w3 w4 M, c6 w3 w4 M = some (x, M') → am_R none 251 bk_X9_layGames 6 (am_wr [56, 0, 0, 1, 1] [w3, w4]) [] SH M (am_rv (am_rk 251) x) SH M') (h9 : ∀ M, c9 M = some (x, M') → am_R none 251 bk_X9_layGames 9 (am_wr [0, 0, 0, 0, 0] []) [] SH M (am_rv (am_rk 251) x) SH M') (v3 : Int) (M : am_M) (h : XB_X9_layGames_53_4 c6 c9 v3 M = some (x, M')) : am_R none 251 bk_X9_layGames 4 (am_wr [56, 0, 0, 1, 0] [v3]) [] SH M (am_rv (am_rk 251) x) SH M' :=
  vRegion (sc := none) (sh := SH) (F := F_X9_layGames_53) (k := 251) (bs := bk_X9_layGames) (r := (x, M')) (C := fun t lv st M => if t = 6 then vCt [56, 0, 0, 1, 1] (un2 c6) lv st M else if t = 9 then vCt [0, 0, 0, 0, 0] (un0 c9) lv st M else none) ok_X9_layGames fs_X9_layGames_53 (fun t lv st M h => by
    split at h
    · rename_i e; subst e; exact vCt_s (un2_s h6) h
    split at h
    · rename_i e; subst e; exact vCt_s (un0_s h9) h
    cases h) 12 4 (am_wr [56, 0, 0, 1, 0] [v3]) [] M h
noncomputable def XB_X9_layGames_53_6 (c6 : Int → Int → am_M → am_Rs) (c8 : Int → am_M → am_Rs) (v3 v4 : Int) (M : am_M) : am_Rs :=
  if wI (M 53 1) < wI v4 then
   c8 v3 M
  else (X_X9_firstTo_53 v3 v4 M).bind fun z1 =>
  (X_X9_valueOf_53 v3 v4 z1.1 z1.2).bind fun z2 =>
  if 0 ≤ wI ((13 * v3) + v4) ∧ wI ((13 * v3) + v4) < 65 then
  c6 v3 (v4 + 1) (am_up z2.2 68 (wI ((13 * v3) + v4)).toNat z2.1)
  else none
set_option maxRecDepth 100000 in
theorem rs_X9_layGames_53_6 {x : Int} {M' : am_M} {c6 : Int → Int → am_M → am_Rs} {c8 : Int → am_M → am_Rs} (h6 : ∀ w3 w4 M, c6 w3 w4 M = some (x, M') → am_R none 251 bk_X9_layGames 6 (am_wr [56, 0, 0, 1, 1] [w3, w4]) [] SH M (am_rv (am_rk 251) x) SH M') (h8 : ∀ w3 M, c8 w3 M = some (x, M') → am_R none 251 bk_X9_layGames 8 (am_wr [56, 0, 0, 1, 0] [w3]) [] SH M (am_rv (am_rk 251) x) SH M') (v3 v4 : Int) (M : am_M) (h : XB_X9_layGames_53_6 c6 c8 v3 v4 M = some (x, M')) : am_R none 251 bk_X9_layGames 6 (am_wr [56, 0, 0, 1, 1] [v3, v4]) [] SH M (am_rv (am_rk 251) x) SH M' :=
  vRegion (sc := none) (sh := SH) (F := F_X9_layGames_53) (k := 251) (bs := bk_X9_layGames) (r := (x, M')) (C := fun t lv st M => if t = 6 then vCt [56, 0, 0, 1, 1] (un2 c6) lv st M else if t = 8 then vCt [56, 0, 0, 1, 0] (un1 c8) lv st M else none) ok_X9_layGames fs_X9_layGames_53 (fun t lv st M h => by
    split at h
    · rename_i e; subst e; exact vCt_s (un2_s h6) h
    split at h
    · rename_i e; subst e; exact vCt_s (un1_s h8) h
    cases h) 12 6 (am_wr [56, 0, 0, 1, 1] [v3, v4]) [] M h
noncomputable def XB_X9_layGames_53_9 (M : am_M) : am_Rs :=
  some (0, M)
set_option maxRecDepth 100000 in
theorem rs_X9_layGames_53_9 {x : Int} {M' : am_M} (M : am_M) (h : XB_X9_layGames_53_9 M = some (x, M')) : am_R none 251 bk_X9_layGames 9 (am_wr [0, 0, 0, 0, 0] []) [] SH M (am_rv (am_rk 251) x) SH M' :=
  vRegion (sc := none) (sh := SH) (F := F_X9_layGames_53) (k := 251) (bs := bk_X9_layGames) (r := (x, M')) (C := fun t lv st M => none) ok_X9_layGames fs_X9_layGames_53 (fun t lv st M h => by
    cases h) 12 9 (am_wr [0, 0, 0, 0, 0] []) [] M h
noncomputable def XB_X9_layGames_53_8 (c4 : Int → am_M → am_Rs) (v3 : Int) (M : am_M) : am_Rs :=
  c4 (v3 + (-1)) M
set_option maxRecDepth 100000 in
theorem rs_X9_layGames_53_8 {x : Int} {M' : am_M} {c4 : Int → am_M → am_Rs} (h4 : ∀ w3 M, c4 w3 M = some (x, M') → am_R none 251 bk_X9_layGames 4 (am_wr [56, 0, 0, 1, 0] [w3]) [] SH M (am_rv (am_rk 251) x) SH M') (v3 : Int) (M : am_M) (h : XB_X9_layGames_53_8 c4 v3 M = some (x, M')) : am_R none 251 bk_X9_layGames 8 (am_wr [56, 0, 0, 1, 0] [v3]) [] SH M (am_rv (am_rk 251) x) SH M' :=
  vRegion (sc := none) (sh := SH) (F := F_X9_layGames_53) (k := 251) (bs := bk_X9_layGames) (r := (x, M')) (C := fun t lv st M => if t = 4 then vCt [56, 0, 0, 1, 0] (un1 c4) lv st M else none) ok_X9_layGames fs_X9_layGames_53 (fun t lv st M h => by
    split at h
    · rename_i e; subst e; exact vCt_s (un1_s h4) h
    cases h) 12 8 (am_wr [56, 0, 0, 1, 0] [v3]) [] M h
noncomputable def XB_X9_layGames_53_e (c1 : Int → Int → am_M → am_Rs) (v1 v2 : Int) (M : am_M) : am_Rs :=
  c1 v1 0 (am_up (am_up M 53 29 v1) 53 30 v2)
set_option maxRecDepth 100000 in
theorem rs_X9_layGames_53_e {x : Int} {M' : am_M} {c1 : Int → Int → am_M → am_Rs} (h1 : ∀ w1 w3 M, c1 w1 w3 M = some (x, M') → am_R none 251 bk_X9_layGames 1 (am_wr [56, 1, 0, 1, 0] [w1, w3]) [] SH M (am_rv (am_rk 251) x) SH M') (v1 v2 : Int) (M : am_M) (h : XB_X9_layGames_53_e c1 v1 v2 M = some (x, M')) : am_R none 251 bk_X9_layGames 0 (am_ent 5 [.inr (.inr (some 53)), .inl v1, .inl v2]) [] SH M (am_rv (am_rk 251) x) SH M' :=
  vRegion (sc := none) (sh := SH) (F := F_X9_layGames_53) (k := 251) (bs := bk_X9_layGames) (r := (x, M')) (C := fun t lv st M => if t = 1 then vCt [56, 1, 0, 1, 0] (un2 c1) lv st M else none) ok_X9_layGames fs_X9_layGames_53 (fun t lv st M h => by
    split at h
    · rename_i e; subst e; exact vCt_s (un2_s h1) h
    cases h) 12 0 (am_ent 5 [.inr (.inr (some 53)), .inl v1, .inl v2]) [] M h
noncomputable def XL_X9_layGames_53_1 (k3 : Int → am_M → am_Rs) : Nat → Int → Int → am_M → am_Rs
  | 0, _, _, _ => none
  | n + 1, v1, v3, M => XB_X9_layGames_53_1 (XL_X9_layGames_53_1 k3 n) k3 v1 v3 M
theorem ls_X9_layGames_53_1 {x : Int} {M' : am_M} {k3 : Int → am_M → am_Rs} (hk3 : ∀ w1 M, k3 w1 M = some (x, M') → am_R none 251 bk_X9_layGames 3 (am_wr [56, 1, 0, 0, 0] [w1]) [] SH M (am_rv (am_rk 251) x) SH M') : ∀ (n : Nat) (v1 v3 : Int) (M : am_M), XL_X9_layGames_53_1 k3 n v1 v3 M = some (x, M') → am_R none 251 bk_X9_layGames 1 (am_wr [56, 1, 0, 1, 0] [v1, v3]) [] SH M (am_rv (am_rk 251) x) SH M'
  | 0, v1, v3, M, h => by cases h
  | n + 1, v1, v3, M, h => rs_X9_layGames_53_1 (ls_X9_layGames_53_1 hk3 n) hk3 v1 v3 M h
noncomputable def XL_X9_layGames_53_6 (k8 : Int → am_M → am_Rs) : Nat → Int → Int → am_M → am_Rs
  | 0, _, _, _ => none
  | n + 1, v3, v4, M => XB_X9_layGames_53_6 (XL_X9_layGames_53_6 k8 n) k8 v3 v4 M
theorem ls_X9_layGames_53_6 {x : Int} {M' : am_M} {k8 : Int → am_M → am_Rs} (hk8 : ∀ w3 M, k8 w3 M = some (x, M') → am_R none 251 bk_X9_layGames 8 (am_wr [56, 0, 0, 1, 0] [w3]) [] SH M (am_rv (am_rk 251) x) SH M') : ∀ (n : Nat) (v3 v4 : Int) (M : am_M), XL_X9_layGames_53_6 k8 n v3 v4 M = some (x, M') → am_R none 251 bk_X9_layGames 6 (am_wr [56, 0, 0, 1, 1] [v3, v4]) [] SH M (am_rv (am_rk 251) x) SH M'
  | 0, v3, v4, M, h => by cases h
  | n + 1, v3, v4, M, h => rs_X9_layGames_53_6 (ls_X9_layGames_53_6 hk8 n) hk8 v3 v4 M h
noncomputable def XL_X9_layGames_53_4 (k9 : am_M → am_Rs) : Nat → Int → am_M → am_Rs
  | 0, _, _ => none
  | n + 1, v3, M => XB_X9_layGames_53_4 (XL_X9_layGames_53_6 (XB_X9_layGames_53_8 (XL_X9_layGames_53_4 k9 n)) 1000) k9 v3 M
theorem ls_X9_layGames_53_4 {x : Int} {M' : am_M} {k9 : am_M → am_Rs} (hk9 : ∀ M, k9 M = some (x, M') → am_R none 251 bk_X9_layGames 9 (am_wr [0, 0, 0, 0, 0] []) [] SH M (am_rv (am_rk 251) x) SH M') : ∀ (n : Nat) (v3 : Int) (M : am_M), XL_X9_layGames_53_4 k9 n v3 M = some (x, M') → am_R none 251 bk_X9_layGames 4 (am_wr [56, 0, 0, 1, 0] [v3]) [] SH M (am_rv (am_rk 251) x) SH M'
  | 0, v3, M, h => by cases h
  | n + 1, v3, M, h => rs_X9_layGames_53_4 (ls_X9_layGames_53_6 (rs_X9_layGames_53_8 (ls_X9_layGames_53_4 hk9 n)) 1000) hk9 v3 M h
noncomputable def X_X9_layGames_53 (v1 v2 : Int) (M : am_M) : am_Rs := XB_X9_layGames_53_e (XL_X9_layGames_53_1 (XB_X9_layGames_53_3 (XL_X9_layGames_53_4 (XB_X9_layGames_53_9) 1000)) 1000) v1 v2 M
theorem dc_X9_layGames_53 (v1 v2 : Int) (M M' : am_M) (x : Int) (h : X_X9_layGames_53 v1 v2 M = some (x, M')) : am_Calls 251 [.inr (.inr (some 53)), .inl v1, .inl v2] SH M (am_rv (am_rk 251) x) SH M' :=
  am_enter pn_X9_layGames ml_X9_layGames rfl (Nat.le_of_ble_eq_true rfl) ⟨Nat.le_refl _, Nat.le_refl _⟩ (rs_X9_layGames_53_e (ls_X9_layGames_53_1 (rs_X9_layGames_53_3 (ls_X9_layGames_53_4 (rs_X9_layGames_53_9) 1000)) 1000) v1 v2 M h)
noncomputable def F_X9_game_53 : Nat → List am_V → am_M → am_Rs := fun k as M => if k = 171 then (match as with
  | [.inr (.inr (some 53)), .inl a1] => X_X9_tell_53 a1 M
  | _ => none) else if k = 251 then (match as with
  | [.inr (.inr (some 53)), .inl a1, .inl a2] => X_X9_layGames_53 a1 a2 M
  | _ => none) else if k = 252 then (match as with
  | [.inl a0, .inl a1, .inl a2] => X_X9_isGame a0 a1 a2 M
  | _ => none) else none
theorem fs_X9_game_53 : am_FS SH F_X9_game_53 := by
  intro k as M x M' h
  unfold F_X9_game_53 at h
  split at h
  · rename_i hk; subst hk
    split at h
    · exact dc_X9_tell_53 _ _ _ _ h
    · cases h
  split at h
  · rename_i hk; subst hk
    split at h
    · exact dc_X9_layGames_53 _ _ _ _ _ h
    · cases h
  split at h
  · rename_i hk; subst hk
    split at h
    · exact dc_X9_isGame _ _ _ _ _ _ h
    · cases h
  cases h
noncomputable def X_X9_game_53 (v1 v2 : Int) (M : am_M) : am_Rs :=
  (X_X9_isGame v1 v2 0 M).bind fun z1 =>
  if wI z1.1 = 0 then
   some ((-1), z1.2)
  else if wI (z1.2 53 1) = 0 then
   some ((-4), z1.2)
  else (X_X9_layGames_53 v1 v2 z1.2).bind fun z2 =>
  if 0 ≤ wI (z2.2 54 1) ∧ wI (z2.2 54 1) < 65 then
  (X_X9_tell_53 (z2.2 68 (wI (z2.2 54 1)).toNat) z2.2).bind fun z3 =>
   some (z3.1, z3.2)
  else none
set_option maxRecDepth 100000 in
theorem dc_X9_game_53 (v1 v2 : Int) (M M' : am_M) (x : Int) (h : X_X9_game_53 v1 v2 M = some (x, M')) : am_Calls 253 [.inr (.inr (some 53)), .inl v1, .inl v2] SH M (am_rv (am_rk 253) x) SH M' :=
  vCall (F := F_X9_game_53) (C := fun _ _ _ _ => none) (fu := 7) ok_X9_game pn_X9_game ml_X9_game rfl (Nat.le_of_ble_eq_true rfl) fs_X9_game_53 (fun _ _ _ _ h => by cases h) h
noncomputable def F_X9_said_53 : Nat → List am_V → am_M → am_Rs := fun k as M => if k = 250 then (match as with
  | [.inr (.inr (some 53)), .inl a1, .inl a2] => X_X9_firstTo_53 a1 a2 M
  | _ => none) else if k = 251 then (match as with
  | [.inr (.inr (some 53)), .inl a1, .inl a2] => X_X9_layGames_53 a1 a2 M
  | _ => none) else if k = 252 then (match as with
  | [.inl a0, .inl a1, .inl a2] => X_X9_isGame a0 a1 a2 M
  | _ => none) else none
theorem fs_X9_said_53 : am_FS SH F_X9_said_53 := by
  intro k as M x M' h
  unfold F_X9_said_53 at h
  split at h
  · rename_i hk; subst hk
    split at h
    · exact dc_X9_firstTo_53 _ _ _ _ _ h
    · cases h
  split at h
  · rename_i hk; subst hk
    split at h
    · exact dc_X9_layGames_53 _ _ _ _ _ h
    · cases h
  split at h
  · rename_i hk; subst hk
    split at h
    · exact dc_X9_isGame _ _ _ _ _ _ h
    · cases h
  cases h
noncomputable def X_X9_said_53 (v1 v2 : Int) (M : am_M) : am_Rs :=
  (X_X9_isGame v1 v2 1 M).bind fun z1 =>
  if wI z1.1 = 0 then
   some ((-1), z1.2)
  else if wI (z1.2 53 1) = 0 then
   some ((-4), z1.2)
  else (X_X9_layGames_53 v1 v2 z1.2).bind fun z2 =>
  (X_X9_firstTo_53 0 (z2.2 54 1) z2.2).bind fun z3 =>
  some (z3.1, z3.2)
set_option maxRecDepth 100000 in
theorem dc_X9_said_53 (v1 v2 : Int) (M M' : am_M) (x : Int) (h : X_X9_said_53 v1 v2 M = some (x, M')) : am_Calls 254 [.inr (.inr (some 53)), .inl v1, .inl v2] SH M (am_rv (am_rk 254) x) SH M' :=
  vCall (F := F_X9_said_53) (C := fun _ _ _ _ => none) (fu := 7) ok_X9_said pn_X9_said ml_X9_said rfl (Nat.le_of_ble_eq_true rfl) fs_X9_said_53 (fun _ _ _ _ h => by cases h) h
noncomputable def F_X9_calm_53 : Nat → List am_V → am_M → am_Rs := fun k as M => if k = 248 then (match as with
  | [.inr (.inr (some 53)), .inl a1, .inl a2, .inl a3] => X_X9_answerTo_53 a1 a2 a3 M
  | _ => none) else if k = 250 then (match as with
  | [.inr (.inr (some 53)), .inl a1, .inl a2] => X_X9_firstTo_53 a1 a2 M
  | _ => none) else if k = 251 then (match as with
  | [.inr (.inr (some 53)), .inl a1, .inl a2] => X_X9_layGames_53 a1 a2 M
  | _ => none) else if k = 252 then (match as with
  | [.inl a0, .inl a1, .inl a2] => X_X9_isGame a0 a1 a2 M
  | _ => none) else none
theorem fs_X9_calm_53 : am_FS SH F_X9_calm_53 := by
  intro k as M x M' h
  unfold F_X9_calm_53 at h
  split at h
  · rename_i hk; subst hk
    split at h
    · exact dc_X9_answerTo_53 _ _ _ _ _ _ h
    · cases h
  split at h
  · rename_i hk; subst hk
    split at h
    · exact dc_X9_firstTo_53 _ _ _ _ _ h
    · cases h
  split at h
  · rename_i hk; subst hk
    split at h
    · exact dc_X9_layGames_53 _ _ _ _ _ h
    · cases h
  split at h
  · rename_i hk; subst hk
    split at h
    · exact dc_X9_isGame _ _ _ _ _ _ h
    · cases h
  cases h
noncomputable def XB_X9_calm_53_5 (c5 : Int → Int → am_M → am_Rs) (c12 : Int → am_M → am_Rs) (v3 v4 : Int) (M : am_M) : am_Rs :=
  if wI v4 < wI (M 53 29) then
   if wI v3 = 0 then
    c5 0 (v4 + 1) M
   else (X_X9_firstTo_53 v4 (M 54 1) M).bind fun z1 =>
   if wI z1.1 = 0 then
    (X_X9_answerTo_53 v4 (z1.2 54 1) 0 z1.2).bind fun z2 =>
    if wI z2.1 = 0 then
     c5 1 (v4 + 1) z2.2
    else c5 0 (v4 + 1) z2.2
   else c5 0 (v4 + 1) z1.2
  else c12 v3 M
set_option maxRecDepth 100000 in
theorem rs_X9_calm_53_5 {x : Int} {M' : am_M} {c5 : Int → Int → am_M → am_Rs} {c12 : Int → am_M → am_Rs} (h5 : ∀ w3 w4 M, c5 w3 w4 M = some (x, M') → am_R none 255 bk_X9_calm 5 (am_wr [56, 0, 0, 1, 1] [w3, w4]) [] SH M (am_rv (am_rk 255) x) SH M') (h12 : ∀ w3 M, c12 w3 M = some (x, M') → am_R none 255 bk_X9_calm 12 (am_wr [0, 0, 0, 1, 0] [w3]) [] SH M (am_rv (am_rk 255) x) SH M') (v3 v4 : Int) (M : am_M) (h : XB_X9_calm_53_5 c5 c12 v3 v4 M = some (x, M')) : am_R none 255 bk_X9_calm 5 (am_wr [56, 0, 0, 1, 1] [v3, v4]) [] SH M (am_rv (am_rk 255) x) SH M' :=
  vRegion (sc := none) (sh := SH) (F := F_X9_calm_53) (k := 255) (bs := bk_X9_calm) (r := (x, M')) (C := fun t lv st M => if t = 5 then vCt [56, 0, 0, 1, 1] (un2 c5) lv st M else if t = 12 then vCt [0, 0, 0, 1, 0] (un1 c12) lv st M else none) ok_X9_calm fs_X9_calm_53 (fun t lv st M h => by
    split at h
    · rename_i e; subst e; exact vCt_s (un2_s h5) h
    split at h
    · rename_i e; subst e; exact vCt_s (un1_s h12) h
    cases h) 18 5 (am_wr [56, 0, 0, 1, 1] [v3, v4]) [] M h
noncomputable def XB_X9_calm_53_12 (v3 : Int) (M : am_M) : am_Rs :=
  if wI v3 = 0 then
   some (0, M)
  else some (1, M)
set_option maxRecDepth 100000 in
theorem rs_X9_calm_53_12 {x : Int} {M' : am_M} (v3 : Int) (M : am_M) (h : XB_X9_calm_53_12 v3 M = some (x, M')) : am_R none 255 bk_X9_calm 12 (am_wr [0, 0, 0, 1, 0] [v3]) [] SH M (am_rv (am_rk 255) x) SH M' :=
  vRegion (sc := none) (sh := SH) (F := F_X9_calm_53) (k := 255) (bs := bk_X9_calm) (r := (x, M')) (C := fun t lv st M => none) ok_X9_calm fs_X9_calm_53 (fun t lv st M h => by
    cases h) 18 12 (am_wr [0, 0, 0, 1, 0] [v3]) [] M h
noncomputable def XB_X9_calm_53_e (c5 : Int → Int → am_M → am_Rs) (v1 v2 : Int) (M : am_M) : am_Rs :=
  (X_X9_isGame v1 v2 0 M).bind fun z1 =>
  if wI z1.1 = 0 then
   some ((-1), z1.2)
  else if wI (z1.2 53 1) = 0 then
   some ((-4), z1.2)
  else (X_X9_layGames_53 v1 v2 z1.2).bind fun z2 =>
  c5 1 0 z2.2
set_option maxRecDepth 100000 in
theorem rs_X9_calm_53_e {x : Int} {M' : am_M} {c5 : Int → Int → am_M → am_Rs} (h5 : ∀ w3 w4 M, c5 w3 w4 M = some (x, M') → am_R none 255 bk_X9_calm 5 (am_wr [56, 0, 0, 1, 1] [w3, w4]) [] SH M (am_rv (am_rk 255) x) SH M') (v1 v2 : Int) (M : am_M) (h : XB_X9_calm_53_e c5 v1 v2 M = some (x, M')) : am_R none 255 bk_X9_calm 0 (am_ent 5 [.inr (.inr (some 53)), .inl v1, .inl v2]) [] SH M (am_rv (am_rk 255) x) SH M' :=
  vRegion (sc := none) (sh := SH) (F := F_X9_calm_53) (k := 255) (bs := bk_X9_calm) (r := (x, M')) (C := fun t lv st M => if t = 5 then vCt [56, 0, 0, 1, 1] (un2 c5) lv st M else none) ok_X9_calm fs_X9_calm_53 (fun t lv st M h => by
    split at h
    · rename_i e; subst e; exact vCt_s (un2_s h5) h
    cases h) 18 0 (am_ent 5 [.inr (.inr (some 53)), .inl v1, .inl v2]) [] M h
noncomputable def XL_X9_calm_53_5 (k12 : Int → am_M → am_Rs) : Nat → Int → Int → am_M → am_Rs
  | 0, _, _, _ => none
  | n + 1, v3, v4, M => XB_X9_calm_53_5 (XL_X9_calm_53_5 k12 n) k12 v3 v4 M
theorem ls_X9_calm_53_5 {x : Int} {M' : am_M} {k12 : Int → am_M → am_Rs} (hk12 : ∀ w3 M, k12 w3 M = some (x, M') → am_R none 255 bk_X9_calm 12 (am_wr [0, 0, 0, 1, 0] [w3]) [] SH M (am_rv (am_rk 255) x) SH M') : ∀ (n : Nat) (v3 v4 : Int) (M : am_M), XL_X9_calm_53_5 k12 n v3 v4 M = some (x, M') → am_R none 255 bk_X9_calm 5 (am_wr [56, 0, 0, 1, 1] [v3, v4]) [] SH M (am_rv (am_rk 255) x) SH M'
  | 0, v3, v4, M, h => by cases h
  | n + 1, v3, v4, M, h => rs_X9_calm_53_5 (ls_X9_calm_53_5 hk12 n) hk12 v3 v4 M h
noncomputable def X_X9_calm_53 (v1 v2 : Int) (M : am_M) : am_Rs := XB_X9_calm_53_e (XL_X9_calm_53_5 (XB_X9_calm_53_12) 1000) v1 v2 M
theorem dc_X9_calm_53 (v1 v2 : Int) (M M' : am_M) (x : Int) (h : X_X9_calm_53 v1 v2 M = some (x, M')) : am_Calls 255 [.inr (.inr (some 53)), .inl v1, .inl v2] SH M (am_rv (am_rk 255) x) SH M' :=
  am_enter pn_X9_calm ml_X9_calm rfl (Nat.le_of_ble_eq_true rfl) ⟨Nat.le_refl _, Nat.le_refl _⟩ (rs_X9_calm_53_e (ls_X9_calm_53_5 (rs_X9_calm_53_12) 1000) v1 v2 M h)
noncomputable def F_X9_law_53 : Nat → List am_V → am_M → am_Rs := fun k as M => if k = 194 then (match as with
  | [.inr (.inr (some 53)), .inl a1] => X_X9_isStrip_53 a1 M
  | _ => none) else if k = 197 then (match as with
  | [.inl a0, .inl a1] => X_X9_isAt a0 a1 M
  | _ => none) else if k = 213 then (match as with
  | [.inr (.inr (some 53)), .inl a1] => X_X9_lain_53 a1 M
  | _ => none) else none
theorem fs_X9_law_53 : am_FS SH F_X9_law_53 := by
  intro k as M x M' h
  unfold F_X9_law_53 at h
  split at h
  · rename_i hk; subst hk
    split at h
    · exact dc_X9_isStrip_53 _ _ _ _ h
    · cases h
  split at h
  · rename_i hk; subst hk
    split at h
    · exact dc_X9_isAt _ _ _ _ _ h
    · cases h
  split at h
  · rename_i hk; subst hk
    split at h
    · exact dc_X9_lain_53 _ _ _ _ h
    · cases h
  cases h
noncomputable def X_X9_law_53 (v1 v2 : Int) (M : am_M) : am_Rs :=
  (X_X9_isStrip_53 v1 M).bind fun z1 =>
  if wI z1.1 = 0 then
   some ((-1), z1.2)
  else if wI v2 < 0 then
   some ((-1), z1.2)
  else if wI (z1.2 54 0) < wI v2 then
   some ((-4), z1.2)
  else (X_X9_lain_53 v2 z1.2).bind fun z2 =>
  if 0 ≤ wI v1 ∧ wI v1 < 12 then
  if wI (z2.2 55 (wI v1).toNat) = 5 then
    (X_X9_isAt z2.1 v1 z2.2).bind fun z3 =>
    if wI z3.1 = 0 then
     if wI v1 < wI z2.1 then
      some (1, z3.2)
     else some (2, z3.2)
    else some (3, z3.2)
   else if wI v1 < wI z2.1 then
    some (1, z2.2)
   else some (2, z2.2)
  else none
set_option maxRecDepth 100000 in
theorem dc_X9_law_53 (v1 v2 : Int) (M M' : am_M) (x : Int) (h : X_X9_law_53 v1 v2 M = some (x, M')) : am_Calls 256 [.inr (.inr (some 53)), .inl v1, .inl v2] SH M (am_rv (am_rk 256) x) SH M' :=
  vCall (F := F_X9_law_53) (C := fun _ _ _ _ => none) (fu := 14) ok_X9_law pn_X9_law ml_X9_law rfl (Nat.le_of_ble_eq_true rfl) fs_X9_law_53 (fun _ _ _ _ h => by cases h) h
noncomputable def F_X9_areBooks_53 : Nat → List am_V → am_M → am_Rs := fun k as M => if k = 168 then (match as with
  | [.inr (.inl a0), .inr (.inl a2), .inr (.inl a4)] => X_X9_in a0 a2 a4 M
  | _ => none) else if k = 194 then (match as with
  | [.inr (.inr (some 53)), .inl a1] => X_X9_isStrip_53 a1 M
  | _ => none) else none
theorem fs_X9_areBooks_53 : am_FS SH F_X9_areBooks_53 := by
  intro k as M x M' h
  unfold F_X9_areBooks_53 at h
  split at h
  · rename_i hk; subst hk
    split at h
    · exact dc_X9_in _ _ _ _ _ _ h
    · cases h
  split at h
  · rename_i hk; subst hk
    split at h
    · exact dc_X9_isStrip_53 _ _ _ _ h
    · cases h
  cases h
noncomputable def XB_X9_areBooks_53_1 (c1 : Int → Int → Int → am_M → am_Rs) (c9 : Int → am_M → am_Rs) (v1 v2 v3 : Int) (M : am_M) : am_Rs :=
  if 0 ≤ wI v1 ∧ wI v1 < 6 then
  if wI v3 < wI ((40 * v1) + (M 57 (wI v1).toNat)) then
    if wI v2 = 0 then
     c1 v1 0 (v3 + 3) M
    else if 0 ≤ wI v3 ∧ wI v3 < 240 then
    (X_X9_in (wI (M 58 (wI v3).toNat)) 0 (wI (M 54 0)) M).bind fun z1 =>
     if wI z1.1 = 0 then
      c1 v1 0 (v3 + 3) z1.2
     else if 0 ≤ wI (v3 + 1) ∧ wI (v3 + 1) < 240 then
     (X_X9_isStrip_53 (z1.2 58 (wI (v3 + 1)).toNat) z1.2).bind fun z2 =>
      if wI z2.1 = 0 then
       c1 v1 0 (v3 + 3) z2.2
      else if 0 ≤ wI (v3 + 2) ∧ wI (v3 + 2) < 240 then
      (X_X9_in (wI (z2.2 58 (wI (v3 + 2)).toNat)) 0 1 z2.2).bind fun z3 =>
       if wI z3.1 = 0 then
        c1 v1 0 (v3 + 3) z3.2
       else c1 v1 1 (v3 + 3) z3.2
      else none
     else none
    else none
   else c9 v2 M
  else none
set_option maxRecDepth 100000 in
theorem rs_X9_areBooks_53_1 {x : Int} {M' : am_M} {c1 : Int → Int → Int → am_M → am_Rs} {c9 : Int → am_M → am_Rs} (h1 : ∀ w1 w2 w3 M, c1 w1 w2 w3 M = some (x, M') → am_R none 258 bk_X9_areBooks 1 (am_wr [56, 1, 1, 1] [w1, w2, w3]) [] SH M (am_rv (am_rk 258) x) SH M') (h9 : ∀ w2 M, c9 w2 M = some (x, M') → am_R none 258 bk_X9_areBooks 9 (am_wr [0, 0, 1, 0] [w2]) [] SH M (am_rv (am_rk 258) x) SH M') (v1 v2 v3 : Int) (M : am_M) (h : XB_X9_areBooks_53_1 c1 c9 v1 v2 v3 M = some (x, M')) : am_R none 258 bk_X9_areBooks 1 (am_wr [56, 1, 1, 1] [v1, v2, v3]) [] SH M (am_rv (am_rk 258) x) SH M' :=
  vRegion (sc := none) (sh := SH) (F := F_X9_areBooks_53) (k := 258) (bs := bk_X9_areBooks) (r := (x, M')) (C := fun t lv st M => if t = 1 then vCt [56, 1, 1, 1] (un3 c1) lv st M else if t = 9 then vCt [0, 0, 1, 0] (un1 c9) lv st M else none) ok_X9_areBooks fs_X9_areBooks_53 (fun t lv st M h => by
    split at h
    · rename_i e; subst e; exact vCt_s (un3_s h1) h
    split at h
    · rename_i e; subst e; exact vCt_s (un1_s h9) h
    cases h) 12 1 (am_wr [56, 1, 1, 1] [v1, v2, v3]) [] M h
noncomputable def XB_X9_areBooks_53_9 (v2 : Int) (M : am_M) : am_Rs :=
  if v2 = 0 ∨ v2 = 1 then
  some (v2, M)
  else none
set_option maxRecDepth 100000 in
theorem rs_X9_areBooks_53_9 {x : Int} {M' : am_M} (v2 : Int) (M : am_M) (h : XB_X9_areBooks_53_9 v2 M = some (x, M')) : am_R none 258 bk_X9_areBooks 9 (am_wr [0, 0, 1, 0] [v2]) [] SH M (am_rv (am_rk 258) x) SH M' :=
  vRegion (sc := none) (sh := SH) (F := F_X9_areBooks_53) (k := 258) (bs := bk_X9_areBooks) (r := (x, M')) (C := fun t lv st M => none) ok_X9_areBooks fs_X9_areBooks_53 (fun t lv st M h => by
    cases h) 12 9 (am_wr [0, 0, 1, 0] [v2]) [] M h
noncomputable def XB_X9_areBooks_53_e (c1 : Int → Int → Int → am_M → am_Rs) (v1 : Int) (M : am_M) : am_Rs :=
  c1 v1 1 (40 * v1) M
set_option maxRecDepth 100000 in
theorem rs_X9_areBooks_53_e {x : Int} {M' : am_M} {c1 : Int → Int → Int → am_M → am_Rs} (h1 : ∀ w1 w2 w3 M, c1 w1 w2 w3 M = some (x, M') → am_R none 258 bk_X9_areBooks 1 (am_wr [56, 1, 1, 1] [w1, w2, w3]) [] SH M (am_rv (am_rk 258) x) SH M') (v1 : Int) (M : am_M) (h : XB_X9_areBooks_53_e c1 v1 M = some (x, M')) : am_R none 258 bk_X9_areBooks 0 (am_ent 4 [.inr (.inr (some 53)), .inl v1]) [] SH M (am_rv (am_rk 258) x) SH M' :=
  vRegion (sc := none) (sh := SH) (F := F_X9_areBooks_53) (k := 258) (bs := bk_X9_areBooks) (r := (x, M')) (C := fun t lv st M => if t = 1 then vCt [56, 1, 1, 1] (un3 c1) lv st M else none) ok_X9_areBooks fs_X9_areBooks_53 (fun t lv st M h => by
    split at h
    · rename_i e; subst e; exact vCt_s (un3_s h1) h
    cases h) 12 0 (am_ent 4 [.inr (.inr (some 53)), .inl v1]) [] M h
noncomputable def XL_X9_areBooks_53_1 (k9 : Int → am_M → am_Rs) : Nat → Int → Int → Int → am_M → am_Rs
  | 0, _, _, _, _ => none
  | n + 1, v1, v2, v3, M => XB_X9_areBooks_53_1 (XL_X9_areBooks_53_1 k9 n) k9 v1 v2 v3 M
theorem ls_X9_areBooks_53_1 {x : Int} {M' : am_M} {k9 : Int → am_M → am_Rs} (hk9 : ∀ w2 M, k9 w2 M = some (x, M') → am_R none 258 bk_X9_areBooks 9 (am_wr [0, 0, 1, 0] [w2]) [] SH M (am_rv (am_rk 258) x) SH M') : ∀ (n : Nat) (v1 v2 v3 : Int) (M : am_M), XL_X9_areBooks_53_1 k9 n v1 v2 v3 M = some (x, M') → am_R none 258 bk_X9_areBooks 1 (am_wr [56, 1, 1, 1] [v1, v2, v3]) [] SH M (am_rv (am_rk 258) x) SH M'
  | 0, v1, v2, v3, M, h => by cases h
  | n + 1, v1, v2, v3, M, h => rs_X9_areBooks_53_1 (ls_X9_areBooks_53_1 hk9 n) hk9 v1 v2 v3 M h
noncomputable def X_X9_areBooks_53 (v1 : Int) (M : am_M) : am_Rs := XB_X9_areBooks_53_e (XL_X9_areBooks_53_1 (XB_X9_areBooks_53_9) 1000) v1 M
theorem dc_X9_areBooks_53 (v1 : Int) (M M' : am_M) (x : Int) (h : X_X9_areBooks_53 v1 M = some (x, M')) : am_Calls 258 [.inr (.inr (some 53)), .inl v1] SH M (am_rv (am_rk 258) x) SH M' :=
  am_enter pn_X9_areBooks ml_X9_areBooks rfl (Nat.le_of_ble_eq_true rfl) ⟨Nat.le_refl _, Nat.le_refl _⟩ (rs_X9_areBooks_53_e (ls_X9_areBooks_53_1 (rs_X9_areBooks_53_9) 1000) v1 M h)
noncomputable def F_X9_broughtTo_53 : Nat → List am_V → am_M → am_Rs := fun k as M => if k = 196 then (match as with
  | [.inr (.inr (some 53)), .inl a1, .inl a2, .inl a3, .inl a4] => X_X9_behind_53 a1 a2 a3 a4 M
  | _ => none) else none
theorem fs_X9_broughtTo_53 : am_FS SH F_X9_broughtTo_53 := by
  intro k as M x M' h
  unfold F_X9_broughtTo_53 at h
  split at h
  · rename_i hk; subst hk
    split at h
    · exact dc_X9_behind_53 _ _ _ _ _ _ _ h
    · cases h
  cases h
noncomputable def XB_X9_broughtTo_53_1 (c1 : Int → Int → Int → am_M → am_Rs) (c3 : Int → am_M → am_Rs) (v2 v3 v4 : Int) (M : am_M) : am_Rs :=
  if wI v4 < wI v2 then
   if 0 ≤ wI (40 + v4) ∧ wI (40 + v4) < 605 then
   if 0 ≤ wI (40 + v4) ∧ wI (40 + v4) < 605 then
    (X_X9_behind_53 v3 v4 ((wI (M 54 (wI (40 + v4)).toNat)).tdiv 4) ((wI (M 54 (wI (40 + v4)).toNat)).tmod 4) M).bind fun z1 =>
     c1 v2 z1.1 (v4 + 1) z1.2
    else none
   else none
  else c3 v3 M
set_option maxRecDepth 100000 in
theorem rs_X9_broughtTo_53_1 {x : Int} {M' : am_M} {c1 : Int → Int → Int → am_M → am_Rs} {c3 : Int → am_M → am_Rs} (h1 : ∀ w2 w3 w4 M, c1 w2 w3 w4 M = some (x, M') → am_R none 257 bk_X9_broughtTo 1 (am_wr [56, 0, 1, 1, 1] [w2, w3, w4]) [] SH M (am_rv (am_rk 257) x) SH M') (h3 : ∀ w3 M, c3 w3 M = some (x, M') → am_R none 257 bk_X9_broughtTo 3 (am_wr [0, 0, 0, 1, 0] [w3]) [] SH M (am_rv (am_rk 257) x) SH M') (v2 v3 v4 : Int) (M : am_M) (h : XB_X9_broughtTo_53_1 c1 c3 v2 v3 v4 M = some (x, M')) : am_R none 257 bk_X9_broughtTo 1 (am_wr [56, 0, 1, 1, 1] [v2, v3, v4]) [] SH M (am_rv (am_rk 257) x) SH M' :=
  vRegion (sc := none) (sh := SH) (F := F_X9_broughtTo_53) (k := 257) (bs := bk_X9_broughtTo) (r := (x, M')) (C := fun t lv st M => if t = 1 then vCt [56, 0, 1, 1, 1] (un3 c1) lv st M else if t = 3 then vCt [0, 0, 0, 1, 0] (un1 c3) lv st M else none) ok_X9_broughtTo fs_X9_broughtTo_53 (fun t lv st M h => by
    split at h
    · rename_i e; subst e; exact vCt_s (un3_s h1) h
    split at h
    · rename_i e; subst e; exact vCt_s (un1_s h3) h
    cases h) 6 1 (am_wr [56, 0, 1, 1, 1] [v2, v3, v4]) [] M h
noncomputable def XB_X9_broughtTo_53_3 (v3 : Int) (M : am_M) : am_Rs :=
  some (v3, M)
set_option maxRecDepth 100000 in
theorem rs_X9_broughtTo_53_3 {x : Int} {M' : am_M} (v3 : Int) (M : am_M) (h : XB_X9_broughtTo_53_3 v3 M = some (x, M')) : am_R none 257 bk_X9_broughtTo 3 (am_wr [0, 0, 0, 1, 0] [v3]) [] SH M (am_rv (am_rk 257) x) SH M' :=
  vRegion (sc := none) (sh := SH) (F := F_X9_broughtTo_53) (k := 257) (bs := bk_X9_broughtTo) (r := (x, M')) (C := fun t lv st M => none) ok_X9_broughtTo fs_X9_broughtTo_53 (fun t lv st M h => by
    cases h) 6 3 (am_wr [0, 0, 0, 1, 0] [v3]) [] M h
noncomputable def XB_X9_broughtTo_53_e (c1 : Int → Int → Int → am_M → am_Rs) (v1 v2 : Int) (M : am_M) : am_Rs :=
  c1 v2 v1 0 M
set_option maxRecDepth 100000 in
theorem rs_X9_broughtTo_53_e {x : Int} {M' : am_M} {c1 : Int → Int → Int → am_M → am_Rs} (h1 : ∀ w2 w3 w4 M, c1 w2 w3 w4 M = some (x, M') → am_R none 257 bk_X9_broughtTo 1 (am_wr [56, 0, 1, 1, 1] [w2, w3, w4]) [] SH M (am_rv (am_rk 257) x) SH M') (v1 v2 : Int) (M : am_M) (h : XB_X9_broughtTo_53_e c1 v1 v2 M = some (x, M')) : am_R none 257 bk_X9_broughtTo 0 (am_ent 5 [.inr (.inr (some 53)), .inl v1, .inl v2]) [] SH M (am_rv (am_rk 257) x) SH M' :=
  vRegion (sc := none) (sh := SH) (F := F_X9_broughtTo_53) (k := 257) (bs := bk_X9_broughtTo) (r := (x, M')) (C := fun t lv st M => if t = 1 then vCt [56, 0, 1, 1, 1] (un3 c1) lv st M else none) ok_X9_broughtTo fs_X9_broughtTo_53 (fun t lv st M h => by
    split at h
    · rename_i e; subst e; exact vCt_s (un3_s h1) h
    cases h) 6 0 (am_ent 5 [.inr (.inr (some 53)), .inl v1, .inl v2]) [] M h
noncomputable def XL_X9_broughtTo_53_1 (k3 : Int → am_M → am_Rs) : Nat → Int → Int → Int → am_M → am_Rs
  | 0, _, _, _, _ => none
  | n + 1, v2, v3, v4, M => XB_X9_broughtTo_53_1 (XL_X9_broughtTo_53_1 k3 n) k3 v2 v3 v4 M
theorem ls_X9_broughtTo_53_1 {x : Int} {M' : am_M} {k3 : Int → am_M → am_Rs} (hk3 : ∀ w3 M, k3 w3 M = some (x, M') → am_R none 257 bk_X9_broughtTo 3 (am_wr [0, 0, 0, 1, 0] [w3]) [] SH M (am_rv (am_rk 257) x) SH M') : ∀ (n : Nat) (v2 v3 v4 : Int) (M : am_M), XL_X9_broughtTo_53_1 k3 n v2 v3 v4 M = some (x, M') → am_R none 257 bk_X9_broughtTo 1 (am_wr [56, 0, 1, 1, 1] [v2, v3, v4]) [] SH M (am_rv (am_rk 257) x) SH M'
  | 0, v2, v3, v4, M, h => by cases h
  | n + 1, v2, v3, v4, M, h => rs_X9_broughtTo_53_1 (ls_X9_broughtTo_53_1 hk3 n) hk3 v2 v3 v4 M h
noncomputable def X_X9_broughtTo_53 (v1 v2 : Int) (M : am_M) : am_Rs := XB_X9_broughtTo_53_e (XL_X9_broughtTo_53_1 (XB_X9_broughtTo_53_3) 1000) v1 v2 M
theorem dc_X9_broughtTo_53 (v1 v2 : Int) (M M' : am_M) (x : Int) (h : X_X9_broughtTo_53 v1 v2 M = some (x, M')) : am_Calls 257 [.inr (.inr (some 53)), .inl v1, .inl v2] SH M (am_rv (am_rk 257) x) SH M' :=
  am_enter pn_X9_broughtTo ml_X9_broughtTo rfl (Nat.le_of_ble_eq_true rfl) ⟨Nat.le_refl _, Nat.le_refl _⟩ (rs_X9_broughtTo_53_e (ls_X9_broughtTo_53_1 (rs_X9_broughtTo_53_3) 1000) v1 v2 M h)
noncomputable def F_X9_books_53 : Nat → List am_V → am_M → am_Rs := fun k as M => if k = 170 then (match as with
  | [.inr (.inr (some 53)), .inl a1] => X_X9_find_53 a1 M
  | _ => none) else if k = 172 then (match as with
  | [.inl a0] => X_X9_isRow a0 M
  | _ => none) else if k = 257 then (match as with
  | [.inr (.inr (some 53)), .inl a1, .inl a2] => X_X9_broughtTo_53 a1 a2 M
  | _ => none) else if k = 258 then (match as with
  | [.inr (.inr (some 53)), .inl a1] => X_X9_areBooks_53 a1 M
  | _ => none) else none
theorem fs_X9_books_53 : am_FS SH F_X9_books_53 := by
  intro k as M x M' h
  unfold F_X9_books_53 at h
  split at h
  · rename_i hk; subst hk
    split at h
    · exact dc_X9_find_53 _ _ _ _ h
    · cases h
  split at h
  · rename_i hk; subst hk
    split at h
    · exact dc_X9_isRow _ _ _ _ h
    · cases h
  split at h
  · rename_i hk; subst hk
    split at h
    · exact dc_X9_broughtTo_53 _ _ _ _ _ h
    · cases h
  split at h
  · rename_i hk; subst hk
    split at h
    · exact dc_X9_areBooks_53 _ _ _ _ h
    · cases h
  cases h
noncomputable def XB_X9_books_53_11 (c13 : Int → Int → Int → Int → Int → am_M → am_Rs) (c26 : Int → am_M → am_Rs) (v1 v2 v3 : Int) (M : am_M) : am_Rs :=
  if wI (M 53 1) < wI v3 then
   c26 v2 M
  else c13 v1 v2 v3 1 (40 * v1) M
set_option maxRecDepth 100000 in
theorem rs_X9_books_53_11 {x : Int} {M' : am_M} {c13 : Int → Int → Int → Int → Int → am_M → am_Rs} {c26 : Int → am_M → am_Rs} (h13 : ∀ w1 w2 w3 w4 w5 M, c13 w1 w2 w3 w4 w5 M = some (x, M') → am_R none 259 bk_X9_books 13 (am_wr [56, 1, 1, 1, 1, 1, 0] [w1, w2, w3, w4, w5]) [] SH M (am_rv (am_rk 259) x) SH M') (h26 : ∀ w2 M, c26 w2 M = some (x, M') → am_R none 259 bk_X9_books 26 (am_wr [0, 0, 1, 0, 0, 0, 0] [w2]) [] SH M (am_rv (am_rk 259) x) SH M') (v1 v2 v3 : Int) (M : am_M) (h : XB_X9_books_53_11 c13 c26 v1 v2 v3 M = some (x, M')) : am_R none 259 bk_X9_books 11 (am_wr [56, 1, 1, 1, 0, 0, 0] [v1, v2, v3]) [] SH M (am_rv (am_rk 259) x) SH M' :=
  vRegion (sc := none) (sh := SH) (F := F_X9_books_53) (k := 259) (bs := bk_X9_books) (r := (x, M')) (C := fun t lv st M => if t = 13 then vCt [56, 1, 1, 1, 1, 1, 0] (un5 c13) lv st M else if t = 26 then vCt [0, 0, 1, 0, 0, 0, 0] (un1 c26) lv st M else none) ok_X9_books fs_X9_books_53 (fun t lv st M h => by
    split at h
    · rename_i e; subst e; exact vCt_s (un5_s h13) h
    split at h
    · rename_i e; subst e; exact vCt_s (un1_s h26) h
    cases h) 29 11 (am_wr [56, 1, 1, 1, 0, 0, 0] [v1, v2, v3]) [] M h
noncomputable def XB_X9_books_53_13 (c13 : Int → Int → Int → Int → Int → am_M → am_Rs) (c22 : Int → Int → Int → Int → am_M → am_Rs) (v1 v2 v3 v4 v5 : Int) (M : am_M) : am_Rs :=
  if 0 ≤ wI v1 ∧ wI v1 < 6 then
  if wI v5 < wI ((40 * v1) + (M 57 (wI v1).toNat)) then
    if 0 ≤ wI (v5 + 1) ∧ wI (v5 + 1) < 240 then
    if 0 ≤ wI v5 ∧ wI v5 < 240 then
     (X_X9_broughtTo_53 v3 (M 58 (wI v5).toNat) M).bind fun z1 =>
      if wI (M 58 (wI (v5 + 1)).toNat) < wI z1.1 then
       if wI v4 = 0 then
        c13 v1 v2 v3 0 (v5 + 3) z1.2
       else if 0 ≤ wI (v5 + 2) ∧ wI (v5 + 2) < 240 then
       if 0 = wI (z1.2 58 (wI (v5 + 2)).toNat) then
         c13 v1 v2 v3 1 (v5 + 3) z1.2
        else c13 v1 v2 v3 0 (v5 + 3) z1.2
       else none
      else if wI v4 = 0 then
       c13 v1 v2 v3 0 (v5 + 3) z1.2
      else if 0 ≤ wI (v5 + 2) ∧ wI (v5 + 2) < 240 then
      if 1 = wI (z1.2 58 (wI (v5 + 2)).toNat) then
        c13 v1 v2 v3 1 (v5 + 3) z1.2
       else c13 v1 v2 v3 0 (v5 + 3) z1.2
      else none
     else none
    else none
   else c22 v1 v2 v3 v4 M
  else none
set_option maxRecDepth 100000 in
theorem rs_X9_books_53_13 {x : Int} {M' : am_M} {c13 : Int → Int → Int → Int → Int → am_M → am_Rs} {c22 : Int → Int → Int → Int → am_M → am_Rs} (h13 : ∀ w1 w2 w3 w4 w5 M, c13 w1 w2 w3 w4 w5 M = some (x, M') → am_R none 259 bk_X9_books 13 (am_wr [56, 1, 1, 1, 1, 1, 0] [w1, w2, w3, w4, w5]) [] SH M (am_rv (am_rk 259) x) SH M') (h22 : ∀ w1 w2 w3 w4 M, c22 w1 w2 w3 w4 M = some (x, M') → am_R none 259 bk_X9_books 22 (am_wr [56, 1, 1, 1, 1, 0, 0] [w1, w2, w3, w4]) [] SH M (am_rv (am_rk 259) x) SH M') (v1 v2 v3 v4 v5 : Int) (M : am_M) (h : XB_X9_books_53_13 c13 c22 v1 v2 v3 v4 v5 M = some (x, M')) : am_R none 259 bk_X9_books 13 (am_wr [56, 1, 1, 1, 1, 1, 0] [v1, v2, v3, v4, v5]) [] SH M (am_rv (am_rk 259) x) SH M' :=
  vRegion (sc := none) (sh := SH) (F := F_X9_books_53) (k := 259) (bs := bk_X9_books) (r := (x, M')) (C := fun t lv st M => if t = 13 then vCt [56, 1, 1, 1, 1, 1, 0] (un5 c13) lv st M else if t = 22 then vCt [56, 1, 1, 1, 1, 0, 0] (un4 c22) lv st M else none) ok_X9_books fs_X9_books_53 (fun t lv st M h => by
    split at h
    · rename_i e; subst e; exact vCt_s (un5_s h13) h
    split at h
    · rename_i e; subst e; exact vCt_s (un4_s h22) h
    cases h) 29 13 (am_wr [56, 1, 1, 1, 1, 1, 0] [v1, v2, v3, v4, v5]) [] M h
noncomputable def XB_X9_books_53_26 (v2 : Int) (M : am_M) : am_Rs :=
  some (v2, M)
set_option maxRecDepth 100000 in
theorem rs_X9_books_53_26 {x : Int} {M' : am_M} (v2 : Int) (M : am_M) (h : XB_X9_books_53_26 v2 M = some (x, M')) : am_R none 259 bk_X9_books 26 (am_wr [0, 0, 1, 0, 0, 0, 0] [v2]) [] SH M (am_rv (am_rk 259) x) SH M' :=
  vRegion (sc := none) (sh := SH) (F := F_X9_books_53) (k := 259) (bs := bk_X9_books) (r := (x, M')) (C := fun t lv st M => none) ok_X9_books fs_X9_books_53 (fun t lv st M h => by
    cases h) 29 26 (am_wr [0, 0, 1, 0, 0, 0, 0] [v2]) [] M h
noncomputable def XB_X9_books_53_22 (c11 : Int → Int → Int → am_M → am_Rs) (v1 v2 v3 v4 : Int) (M : am_M) : am_Rs :=
  if wI v4 = 0 then
   c11 v1 (b_or_ v2 0) (v3 + 1) M
  else c11 v1 (b_or_ v2 (b_shl_ 1 v3)) (v3 + 1) M
set_option maxRecDepth 100000 in
theorem rs_X9_books_53_22 {x : Int} {M' : am_M} {c11 : Int → Int → Int → am_M → am_Rs} (h11 : ∀ w1 w2 w3 M, c11 w1 w2 w3 M = some (x, M') → am_R none 259 bk_X9_books 11 (am_wr [56, 1, 1, 1, 0, 0, 0] [w1, w2, w3]) [] SH M (am_rv (am_rk 259) x) SH M') (v1 v2 v3 v4 : Int) (M : am_M) (h : XB_X9_books_53_22 c11 v1 v2 v3 v4 M = some (x, M')) : am_R none 259 bk_X9_books 22 (am_wr [56, 1, 1, 1, 1, 0, 0] [v1, v2, v3, v4]) [] SH M (am_rv (am_rk 259) x) SH M' :=
  vRegion (sc := none) (sh := SH) (F := F_X9_books_53) (k := 259) (bs := bk_X9_books) (r := (x, M')) (C := fun t lv st M => if t = 11 then vCt [56, 1, 1, 1, 0, 0, 0] (un3 c11) lv st M else none) ok_X9_books fs_X9_books_53 (fun t lv st M h => by
    split at h
    · rename_i e; subst e; exact vCt_s (un3_s h11) h
    cases h) 29 22 (am_wr [56, 1, 1, 1, 1, 0, 0] [v1, v2, v3, v4]) [] M h
noncomputable def XB_X9_books_53_e (c11 : Int → Int → Int → am_M → am_Rs) (v1 : Int) (M : am_M) : am_Rs :=
  (X_X9_isRow v1 M).bind fun z1 =>
  if wI z1.1 = 0 then
   some ((-1), z1.2)
  else if wI (z1.2 53 1) = 0 then
   some ((-4), z1.2)
  else if 0 ≤ wI v1 ∧ wI v1 < 6 then
  if wI (z1.2 57 (wI v1).toNat) < 0 then
    (X_X9_find_53 1 z1.2).bind fun z2 =>
    some (z2.1, z2.2)
   else if 0 ≤ wI v1 ∧ wI v1 < 6 then
   if wI ((wI (z1.2 57 (wI v1).toNat)).tmod 3) = 0 then
     (X_X9_areBooks_53 v1 z1.2).bind fun z2 =>
     if wI z2.1 = 0 then
      (X_X9_find_53 3 z2.2).bind fun z3 =>
      some (z3.1, z3.2)
     else c11 v1 0 0 z2.2
    else (X_X9_find_53 5 z1.2).bind fun z2 =>
    some (z2.1, z2.2)
   else none
  else none
set_option maxRecDepth 100000 in
theorem rs_X9_books_53_e {x : Int} {M' : am_M} {c11 : Int → Int → Int → am_M → am_Rs} (h11 : ∀ w1 w2 w3 M, c11 w1 w2 w3 M = some (x, M') → am_R none 259 bk_X9_books 11 (am_wr [56, 1, 1, 1, 0, 0, 0] [w1, w2, w3]) [] SH M (am_rv (am_rk 259) x) SH M') (v1 : Int) (M : am_M) (h : XB_X9_books_53_e c11 v1 M = some (x, M')) : am_R none 259 bk_X9_books 0 (am_ent 7 [.inr (.inr (some 53)), .inl v1]) [] SH M (am_rv (am_rk 259) x) SH M' :=
  vRegion (sc := none) (sh := SH) (F := F_X9_books_53) (k := 259) (bs := bk_X9_books) (r := (x, M')) (C := fun t lv st M => if t = 11 then vCt [56, 1, 1, 1, 0, 0, 0] (un3 c11) lv st M else none) ok_X9_books fs_X9_books_53 (fun t lv st M h => by
    split at h
    · rename_i e; subst e; exact vCt_s (un3_s h11) h
    cases h) 29 0 (am_ent 7 [.inr (.inr (some 53)), .inl v1]) [] M h
noncomputable def XL_X9_books_53_13 (k22 : Int → Int → Int → Int → am_M → am_Rs) : Nat → Int → Int → Int → Int → Int → am_M → am_Rs
  | 0, _, _, _, _, _, _ => none
  | n + 1, v1, v2, v3, v4, v5, M => XB_X9_books_53_13 (XL_X9_books_53_13 k22 n) k22 v1 v2 v3 v4 v5 M
theorem ls_X9_books_53_13 {x : Int} {M' : am_M} {k22 : Int → Int → Int → Int → am_M → am_Rs} (hk22 : ∀ w1 w2 w3 w4 M, k22 w1 w2 w3 w4 M = some (x, M') → am_R none 259 bk_X9_books 22 (am_wr [56, 1, 1, 1, 1, 0, 0] [w1, w2, w3, w4]) [] SH M (am_rv (am_rk 259) x) SH M') : ∀ (n : Nat) (v1 v2 v3 v4 v5 : Int) (M : am_M), XL_X9_books_53_13 k22 n v1 v2 v3 v4 v5 M = some (x, M') → am_R none 259 bk_X9_books 13 (am_wr [56, 1, 1, 1, 1, 1, 0] [v1, v2, v3, v4, v5]) [] SH M (am_rv (am_rk 259) x) SH M'
  | 0, v1, v2, v3, v4, v5, M, h => by cases h
  | n + 1, v1, v2, v3, v4, v5, M, h => rs_X9_books_53_13 (ls_X9_books_53_13 hk22 n) hk22 v1 v2 v3 v4 v5 M h
noncomputable def XL_X9_books_53_11 (k26 : Int → am_M → am_Rs) : Nat → Int → Int → Int → am_M → am_Rs
  | 0, _, _, _, _ => none
  | n + 1, v1, v2, v3, M => XB_X9_books_53_11 (XL_X9_books_53_13 (XB_X9_books_53_22 (XL_X9_books_53_11 k26 n)) 1000) k26 v1 v2 v3 M
theorem ls_X9_books_53_11 {x : Int} {M' : am_M} {k26 : Int → am_M → am_Rs} (hk26 : ∀ w2 M, k26 w2 M = some (x, M') → am_R none 259 bk_X9_books 26 (am_wr [0, 0, 1, 0, 0, 0, 0] [w2]) [] SH M (am_rv (am_rk 259) x) SH M') : ∀ (n : Nat) (v1 v2 v3 : Int) (M : am_M), XL_X9_books_53_11 k26 n v1 v2 v3 M = some (x, M') → am_R none 259 bk_X9_books 11 (am_wr [56, 1, 1, 1, 0, 0, 0] [v1, v2, v3]) [] SH M (am_rv (am_rk 259) x) SH M'
  | 0, v1, v2, v3, M, h => by cases h
  | n + 1, v1, v2, v3, M, h => rs_X9_books_53_11 (ls_X9_books_53_13 (rs_X9_books_53_22 (ls_X9_books_53_11 hk26 n)) 1000) hk26 v1 v2 v3 M h
noncomputable def X_X9_books_53 (v1 : Int) (M : am_M) : am_Rs := XB_X9_books_53_e (XL_X9_books_53_11 (XB_X9_books_53_26) 1000) v1 M
theorem dc_X9_books_53 (v1 : Int) (M M' : am_M) (x : Int) (h : X_X9_books_53 v1 M = some (x, M')) : am_Calls 259 [.inr (.inr (some 53)), .inl v1] SH M (am_rv (am_rk 259) x) SH M' :=
  am_enter pn_X9_books ml_X9_books rfl (Nat.le_of_ble_eq_true rfl) ⟨Nat.le_refl _, Nat.le_refl _⟩ (rs_X9_books_53_e (ls_X9_books_53_11 (rs_X9_books_53_26) 1000) v1 M h)
end
section
noncomputable def F_X9_kinds_53 : Nat → List am_V → am_M → am_Rs := fun k as M => if k = 194 then (match as with
  | [.inr (.inr (some 53)), .inl a1] => X_X9_isStrip_53 a1 M
  | _ => none) else if k = 257 then (match as with
  | [.inr (.inr (some 53)), .inl a1, .inl a2] => X_X9_broughtTo_53 a1 a2 M
  | _ => none) else none
theorem fs_X9_kinds_53 : am_FS SH F_X9_kinds_53 := by
  intro k as M x M' h
  unfold F_X9_kinds_53 at h
  split at h
  · rename_i hk; subst hk
    split at h
    · exact dc_X9_isStrip_53 _ _ _ _ h
    · cases h
  split at h
  · rename_i hk; subst hk
    split at h
    · exact dc_X9_broughtTo_53 _ _ _ _ _ h
    · cases h
  cases h
noncomputable def XB_X9_kinds_53_3 (c3 : Int → Int → Int → Int → am_M → am_Rs) (c8 : Int → Int → Int → am_M → am_Rs) (v1 v2 v3 v4 : Int) (M : am_M) : am_Rs :=
  if wI v4 < 6 then
   if 0 ≤ wI v1 ∧ wI v1 < 12 then
   (X_X9_broughtTo_53 ((am_up M 55 (wI v1).toNat v4) 54 120) ((am_up M 55 (wI v1).toNat v4) 54 0) (am_up M 55 (wI v1).toNat v4)).bind fun z1 =>
    if wI z1.1 = wI (z1.2 54 1) then
     c3 v1 v2 (b_or_ v3 (b_shl_ 1 v4)) (v4 + 1) z1.2
    else c3 v1 v2 (b_or_ v3 0) (v4 + 1) z1.2
   else none
  else c8 v1 v2 v3 M
set_option maxRecDepth 100000 in
theorem rs_X9_kinds_53_3 {x : Int} {M' : am_M} {c3 : Int → Int → Int → Int → am_M → am_Rs} {c8 : Int → Int → Int → am_M → am_Rs} (h3 : ∀ w1 w2 w3 w4 M, c3 w1 w2 w3 w4 M = some (x, M') → am_R none 260 bk_X9_kinds 3 (am_wr [56, 1, 1, 1, 1] [w1, w2, w3, w4]) [] SH M (am_rv (am_rk 260) x) SH M') (h8 : ∀ w1 w2 w3 M, c8 w1 w2 w3 M = some (x, M') → am_R none 260 bk_X9_kinds 8 (am_wr [56, 1, 1, 1, 0] [w1, w2, w3]) [] SH M (am_rv (am_rk 260) x) SH M') (v1 v2 v3 v4 : Int) (M : am_M) (h : XB_X9_kinds_53_3 c3 c8 v1 v2 v3 v4 M = some (x, M')) : am_R none 260 bk_X9_kinds 3 (am_wr [56, 1, 1, 1, 1] [v1, v2, v3, v4]) [] SH M (am_rv (am_rk 260) x) SH M' :=
  vRegion (sc := none) (sh := SH) (F := F_X9_kinds_53) (k := 260) (bs := bk_X9_kinds) (r := (x, M')) (C := fun t lv st M => if t = 3 then vCt [56, 1, 1, 1, 1] (un4 c3) lv st M else if t = 8 then vCt [56, 1, 1, 1, 0] (un3 c8) lv st M else none) ok_X9_kinds fs_X9_kinds_53 (fun t lv st M h => by
    split at h
    · rename_i e; subst e; exact vCt_s (un4_s h3) h
    split at h
    · rename_i e; subst e; exact vCt_s (un3_s h8) h
    cases h) 11 3 (am_wr [56, 1, 1, 1, 1] [v1, v2, v3, v4]) [] M h
noncomputable def XB_X9_kinds_53_8 (v1 v2 v3 : Int) (M : am_M) : am_Rs :=
  if 0 ≤ wI v1 ∧ wI v1 < 12 then
  some (v3, (am_up M 55 (wI v1).toNat v2))
  else none
set_option maxRecDepth 100000 in
theorem rs_X9_kinds_53_8 {x : Int} {M' : am_M} (v1 v2 v3 : Int) (M : am_M) (h : XB_X9_kinds_53_8 v1 v2 v3 M = some (x, M')) : am_R none 260 bk_X9_kinds 8 (am_wr [56, 1, 1, 1, 0] [v1, v2, v3]) [] SH M (am_rv (am_rk 260) x) SH M' :=
  vRegion (sc := none) (sh := SH) (F := F_X9_kinds_53) (k := 260) (bs := bk_X9_kinds) (r := (x, M')) (C := fun t lv st M => none) ok_X9_kinds fs_X9_kinds_53 (fun t lv st M h => by
    cases h) 11 8 (am_wr [56, 1, 1, 1, 0] [v1, v2, v3]) [] M h
noncomputable def XB_X9_kinds_53_e (c3 : Int → Int → Int → Int → am_M → am_Rs) (v1 : Int) (M : am_M) : am_Rs :=
  (X_X9_isStrip_53 v1 M).bind fun z1 =>
  if wI z1.1 = 0 then
   some ((-1), z1.2)
  else if 0 ≤ wI v1 ∧ wI v1 < 12 then
  c3 v1 (z1.2 55 (wI v1).toNat) 0 0 z1.2
  else none
set_option maxRecDepth 100000 in
theorem rs_X9_kinds_53_e {x : Int} {M' : am_M} {c3 : Int → Int → Int → Int → am_M → am_Rs} (h3 : ∀ w1 w2 w3 w4 M, c3 w1 w2 w3 w4 M = some (x, M') → am_R none 260 bk_X9_kinds 3 (am_wr [56, 1, 1, 1, 1] [w1, w2, w3, w4]) [] SH M (am_rv (am_rk 260) x) SH M') (v1 : Int) (M : am_M) (h : XB_X9_kinds_53_e c3 v1 M = some (x, M')) : am_R none 260 bk_X9_kinds 0 (am_ent 5 [.inr (.inr (some 53)), .inl v1]) [] SH M (am_rv (am_rk 260) x) SH M' :=
  vRegion (sc := none) (sh := SH) (F := F_X9_kinds_53) (k := 260) (bs := bk_X9_kinds) (r := (x, M')) (C := fun t lv st M => if t = 3 then vCt [56, 1, 1, 1, 1] (un4 c3) lv st M else none) ok_X9_kinds fs_X9_kinds_53 (fun t lv st M h => by
    split at h
    · rename_i e; subst e; exact vCt_s (un4_s h3) h
    cases h) 11 0 (am_ent 5 [.inr (.inr (some 53)), .inl v1]) [] M h
noncomputable def XL_X9_kinds_53_3 (k8 : Int → Int → Int → am_M → am_Rs) : Nat → Int → Int → Int → Int → am_M → am_Rs
  | 0, _, _, _, _, _ => none
  | n + 1, v1, v2, v3, v4, M => XB_X9_kinds_53_3 (XL_X9_kinds_53_3 k8 n) k8 v1 v2 v3 v4 M
theorem ls_X9_kinds_53_3 {x : Int} {M' : am_M} {k8 : Int → Int → Int → am_M → am_Rs} (hk8 : ∀ w1 w2 w3 M, k8 w1 w2 w3 M = some (x, M') → am_R none 260 bk_X9_kinds 8 (am_wr [56, 1, 1, 1, 0] [w1, w2, w3]) [] SH M (am_rv (am_rk 260) x) SH M') : ∀ (n : Nat) (v1 v2 v3 v4 : Int) (M : am_M), XL_X9_kinds_53_3 k8 n v1 v2 v3 v4 M = some (x, M') → am_R none 260 bk_X9_kinds 3 (am_wr [56, 1, 1, 1, 1] [v1, v2, v3, v4]) [] SH M (am_rv (am_rk 260) x) SH M'
  | 0, v1, v2, v3, v4, M, h => by cases h
  | n + 1, v1, v2, v3, v4, M, h => rs_X9_kinds_53_3 (ls_X9_kinds_53_3 hk8 n) hk8 v1 v2 v3 v4 M h
noncomputable def X_X9_kinds_53 (v1 : Int) (M : am_M) : am_Rs := XB_X9_kinds_53_e (XL_X9_kinds_53_3 (XB_X9_kinds_53_8) 1000) v1 M
theorem dc_X9_kinds_53 (v1 : Int) (M M' : am_M) (x : Int) (h : X_X9_kinds_53 v1 M = some (x, M')) : am_Calls 260 [.inr (.inr (some 53)), .inl v1] SH M (am_rv (am_rk 260) x) SH M' :=
  am_enter pn_X9_kinds ml_X9_kinds rfl (Nat.le_of_ble_eq_true rfl) ⟨Nat.le_refl _, Nat.le_refl _⟩ (rs_X9_kinds_53_e (ls_X9_kinds_53_3 (rs_X9_kinds_53_8) 1000) v1 M h)
noncomputable def F_X9_lots_53 : Nat → List am_V → am_M → am_Rs := fun k as M => if k = 168 then (match as with
  | [.inr (.inl a0), .inr (.inl a2), .inr (.inl a4)] => X_X9_in a0 a2 a4 M
  | _ => none) else if k = 200 then (match as with
  | [.inr (.inr (some 53)), .inl a1, .inl a2, .inl a3] => X_X9_goOn_53 a1 a2 a3 M
  | _ => none) else none
theorem fs_X9_lots_53 : am_FS SH F_X9_lots_53 := by
  intro k as M x M' h
  unfold F_X9_lots_53 at h
  split at h
  · rename_i hk; subst hk
    split at h
    · exact dc_X9_in _ _ _ _ _ _ h
    · cases h
  split at h
  · rename_i hk; subst hk
    split at h
    · exact dc_X9_goOn_53 _ _ _ _ _ _ h
    · cases h
  cases h
noncomputable def XB_X9_lots_53_8 (c8 : Int → Int → Int → am_M → am_Rs) (c10 : am_M → am_Rs) (v1 v3 v5 : Int) (M : am_M) : am_Rs :=
  if wI v5 < wI v1 then
   (X_X9_goOn_53 0 ((wL ((wL (v3 * 48271)).tmod 2147483647)).tmod 4) ((wL ((wL ((wL (v3 * 48271)).tmod 2147483647)).tdiv 16)).tmod 4) M).bind fun z1 =>
   c8 v1 ((wL (v3 * 48271)).tmod 2147483647) (v5 + 1) z1.2
  else c10 M
set_option maxRecDepth 100000 in
theorem rs_X9_lots_53_8 {x : Int} {M' : am_M} {c8 : Int → Int → Int → am_M → am_Rs} {c10 : am_M → am_Rs} (h8 : ∀ w1 w3 w5 M, c8 w1 w3 w5 M = some (x, M') → am_R none 261 bk_X9_lots 8 (am_wr [56, 1, 0, 2, 0, 1] [w1, w3, w5]) [] SH M (am_rv (am_rk 261) x) SH M') (h10 : ∀ M, c10 M = some (x, M') → am_R none 261 bk_X9_lots 10 (am_wr [56, 0, 0, 0, 0, 0] []) [] SH M (am_rv (am_rk 261) x) SH M') (v1 v3 v5 : Int) (M : am_M) (h : XB_X9_lots_53_8 c8 c10 v1 v3 v5 M = some (x, M')) : am_R none 261 bk_X9_lots 8 (am_wr [56, 1, 0, 2, 0, 1] [v1, v3, v5]) [] SH M (am_rv (am_rk 261) x) SH M' :=
  vRegion (sc := none) (sh := SH) (F := F_X9_lots_53) (k := 261) (bs := bk_X9_lots) (r := (x, M')) (C := fun t lv st M => if t = 8 then vCt [56, 1, 0, 2, 0, 1] (un3 c8) lv st M else if t = 10 then vCt [56, 0, 0, 0, 0, 0] (un0 c10) lv st M else none) ok_X9_lots fs_X9_lots_53 (fun t lv st M h => by
    split at h
    · rename_i e; subst e; exact vCt_s (un3_s h8) h
    split at h
    · rename_i e; subst e; exact vCt_s (un0_s h10) h
    cases h) 13 8 (am_wr [56, 1, 0, 2, 0, 1] [v1, v3, v5]) [] M h
noncomputable def XB_X9_lots_53_10 (M : am_M) : am_Rs :=
  some (M 54 1, M)
set_option maxRecDepth 100000 in
theorem rs_X9_lots_53_10 {x : Int} {M' : am_M} (M : am_M) (h : XB_X9_lots_53_10 M = some (x, M')) : am_R none 261 bk_X9_lots 10 (am_wr [56, 0, 0, 0, 0, 0] []) [] SH M (am_rv (am_rk 261) x) SH M' :=
  vRegion (sc := none) (sh := SH) (F := F_X9_lots_53) (k := 261) (bs := bk_X9_lots) (r := (x, M')) (C := fun t lv st M => none) ok_X9_lots fs_X9_lots_53 (fun t lv st M h => by
    cases h) 13 10 (am_wr [56, 0, 0, 0, 0, 0] []) [] M h
noncomputable def XB_X9_lots_53_e (c8 : Int → Int → Int → am_M → am_Rs) (v1 v2 : Int) (M : am_M) : am_Rs :=
  (X_X9_in (wI v1) 1 20 M).bind fun z1 =>
  if wI z1.1 = 0 then
   some ((-1), z1.2)
  else (X_X9_in (wI v2) 1 2147483646 z1.2).bind fun z2 =>
  if wI z2.1 = 0 then
   some ((-1), z2.2)
  else if wI (z2.2 53 1) = 0 then
   some ((-4), z2.2)
  else if 40 < wI ((z2.2 54 0) + v1) then
   some ((-2), z2.2)
  else c8 v1 (wI v2) 0 z2.2
set_option maxRecDepth 100000 in
theorem rs_X9_lots_53_e {x : Int} {M' : am_M} {c8 : Int → Int → Int → am_M → am_Rs} (h8 : ∀ w1 w3 w5 M, c8 w1 w3 w5 M = some (x, M') → am_R none 261 bk_X9_lots 8 (am_wr [56, 1, 0, 2, 0, 1] [w1, w3, w5]) [] SH M (am_rv (am_rk 261) x) SH M') (v1 v2 : Int) (M : am_M) (h : XB_X9_lots_53_e c8 v1 v2 M = some (x, M')) : am_R none 261 bk_X9_lots 0 (am_ent 6 [.inr (.inr (some 53)), .inl v1, .inl v2]) [] SH M (am_rv (am_rk 261) x) SH M' :=
  vRegion (sc := none) (sh := SH) (F := F_X9_lots_53) (k := 261) (bs := bk_X9_lots) (r := (x, M')) (C := fun t lv st M => if t = 8 then vCt [56, 1, 0, 2, 0, 1] (un3 c8) lv st M else none) ok_X9_lots fs_X9_lots_53 (fun t lv st M h => by
    split at h
    · rename_i e; subst e; exact vCt_s (un3_s h8) h
    cases h) 13 0 (am_ent 6 [.inr (.inr (some 53)), .inl v1, .inl v2]) [] M h
noncomputable def XL_X9_lots_53_8 (k10 : am_M → am_Rs) : Nat → Int → Int → Int → am_M → am_Rs
  | 0, _, _, _, _ => none
  | n + 1, v1, v3, v5, M => XB_X9_lots_53_8 (XL_X9_lots_53_8 k10 n) k10 v1 v3 v5 M
theorem ls_X9_lots_53_8 {x : Int} {M' : am_M} {k10 : am_M → am_Rs} (hk10 : ∀ M, k10 M = some (x, M') → am_R none 261 bk_X9_lots 10 (am_wr [56, 0, 0, 0, 0, 0] []) [] SH M (am_rv (am_rk 261) x) SH M') : ∀ (n : Nat) (v1 v3 v5 : Int) (M : am_M), XL_X9_lots_53_8 k10 n v1 v3 v5 M = some (x, M') → am_R none 261 bk_X9_lots 8 (am_wr [56, 1, 0, 2, 0, 1] [v1, v3, v5]) [] SH M (am_rv (am_rk 261) x) SH M'
  | 0, v1, v3, v5, M, h => by cases h
  | n + 1, v1, v3, v5, M, h => rs_X9_lots_53_8 (ls_X9_lots_53_8 hk10 n) hk10 v1 v3 v5 M h
noncomputable def X_X9_lots_53 (v1 v2 : Int) (M : am_M) : am_Rs := XB_X9_lots_53_e (XL_X9_lots_53_8 (XB_X9_lots_53_10) 1000) v1 v2 M
theorem dc_X9_lots_53 (v1 v2 : Int) (M M' : am_M) (x : Int) (h : X_X9_lots_53 v1 v2 M = some (x, M')) : am_Calls 261 [.inr (.inr (some 53)), .inl v1, .inl v2] SH M (am_rv (am_rk 261) x) SH M' :=
  am_enter pn_X9_lots ml_X9_lots rfl (Nat.le_of_ble_eq_true rfl) ⟨Nat.le_refl _, Nat.le_refl _⟩ (rs_X9_lots_53_e (ls_X9_lots_53_8 (rs_X9_lots_53_10) 1000) v1 v2 M h)
noncomputable def X_X9_asked_53 (M : am_M) : am_Rs :=
  some (M 53 8, M)
set_option maxRecDepth 100000 in
theorem dc_X9_asked_53 (M M' : am_M) (x : Int) (h : X_X9_asked_53 M = some (x, M')) : am_Calls 262 [.inr (.inr (some 53))] SH M (am_rv (am_rk 262) x) SH M' :=
  vCall (F := F_none) (C := fun _ _ _ _ => none) (fu := 3) ok_X9_asked pn_X9_asked ml_X9_asked rfl (Nat.le_of_ble_eq_true rfl) fs_none (fun _ _ _ _ h => by cases h) h
noncomputable def X_X9_upper_53 (M : am_M) : am_Rs :=
  some (M 53 9, M)
set_option maxRecDepth 100000 in
theorem dc_X9_upper_53 (M M' : am_M) (x : Int) (h : X_X9_upper_53 M = some (x, M')) : am_Calls 263 [.inr (.inr (some 53))] SH M (am_rv (am_rk 263) x) SH M' :=
  vCall (F := F_none) (C := fun _ _ _ _ => none) (fu := 3) ok_X9_upper pn_X9_upper ml_X9_upper rfl (Nat.le_of_ble_eq_true rfl) fs_none (fun _ _ _ _ h => by cases h) h
noncomputable def X_X9_lower_53 (M : am_M) : am_Rs :=
  some (M 53 10, M)
set_option maxRecDepth 100000 in
theorem dc_X9_lower_53 (M M' : am_M) (x : Int) (h : X_X9_lower_53 M = some (x, M')) : am_Calls 264 [.inr (.inr (some 53))] SH M (am_rv (am_rk 264) x) SH M' :=
  vCall (F := F_none) (C := fun _ _ _ _ => none) (fu := 3) ok_X9_lower pn_X9_lower ml_X9_lower rfl (Nat.le_of_ble_eq_true rfl) fs_none (fun _ _ _ _ h => by cases h) h
noncomputable def XB_X9_thereOf_53_1 (c1 : Int → Int → Int → am_M → am_Rs) (c16 : Int → am_M → am_Rs) (v1 v2 v3 : Int) (M : am_M) : am_Rs :=
  if wI v3 < 6 then
   if wI v1 = 6 then
    if 0 ≤ wI v3 ∧ wI v3 < 6 then
    if wI (M 57 (wI v3).toNat) < 0 then
      c1 v1 (v2 + 0) (v3 + 1) M
     else c1 v1 (v2 + 1) (v3 + 1) M
    else none
   else if wI v1 = 7 then
    if wI v3 < 4 then
     if 0 ≤ wI v3 ∧ wI v3 < 4 then
     if wI (M 59 (wI v3).toNat) < 0 then
       c1 v1 (v2 + 0) (v3 + 1) M
      else c1 v1 (v2 + 1) (v3 + 1) M
     else none
    else c1 v1 (v2 + 0) (v3 + 1) M
   else if wI v3 < 3 then
    if 0 ≤ wI ((121 * (1 + v3)) + 0) ∧ wI ((121 * (1 + v3)) + 0) < 605 then
    if wI (M 54 (wI ((121 * (1 + v3)) + 0)).toNat) < 0 then
      c1 v1 (v2 + 0) (v3 + 1) M
     else c1 v1 (v2 + 1) (v3 + 1) M
    else none
   else c1 v1 (v2 + 0) (v3 + 1) M
  else c16 v2 M
set_option maxRecDepth 100000 in
theorem rs_X9_thereOf_53_1 {x : Int} {M' : am_M} {c1 : Int → Int → Int → am_M → am_Rs} {c16 : Int → am_M → am_Rs} (h1 : ∀ w1 w2 w3 M, c1 w1 w2 w3 M = some (x, M') → am_R none 266 bk_X9_thereOf 1 (am_wr [56, 1, 1, 1] [w1, w2, w3]) [] SH M (am_rv (am_rk 266) x) SH M') (h16 : ∀ w2 M, c16 w2 M = some (x, M') → am_R none 266 bk_X9_thereOf 16 (am_wr [0, 0, 1, 0] [w2]) [] SH M (am_rv (am_rk 266) x) SH M') (v1 v2 v3 : Int) (M : am_M) (h : XB_X9_thereOf_53_1 c1 c16 v1 v2 v3 M = some (x, M')) : am_R none 266 bk_X9_thereOf 1 (am_wr [56, 1, 1, 1] [v1, v2, v3]) [] SH M (am_rv (am_rk 266) x) SH M' :=
  vRegion (sc := none) (sh := SH) (F := F_none) (k := 266) (bs := bk_X9_thereOf) (r := (x, M')) (C := fun t lv st M => if t = 1 then vCt [56, 1, 1, 1] (un3 c1) lv st M else if t = 16 then vCt [0, 0, 1, 0] (un1 c16) lv st M else none) ok_X9_thereOf fs_none (fun t lv st M h => by
    split at h
    · rename_i e; subst e; exact vCt_s (un3_s h1) h
    split at h
    · rename_i e; subst e; exact vCt_s (un1_s h16) h
    cases h) 19 1 (am_wr [56, 1, 1, 1] [v1, v2, v3]) [] M h
noncomputable def XB_X9_thereOf_53_16 (v2 : Int) (M : am_M) : am_Rs :=
  some (v2, M)
set_option maxRecDepth 100000 in
theorem rs_X9_thereOf_53_16 {x : Int} {M' : am_M} (v2 : Int) (M : am_M) (h : XB_X9_thereOf_53_16 v2 M = some (x, M')) : am_R none 266 bk_X9_thereOf 16 (am_wr [0, 0, 1, 0] [v2]) [] SH M (am_rv (am_rk 266) x) SH M' :=
  vRegion (sc := none) (sh := SH) (F := F_none) (k := 266) (bs := bk_X9_thereOf) (r := (x, M')) (C := fun t lv st M => none) ok_X9_thereOf fs_none (fun t lv st M h => by
    cases h) 19 16 (am_wr [0, 0, 1, 0] [v2]) [] M h
noncomputable def XB_X9_thereOf_53_e (c1 : Int → Int → Int → am_M → am_Rs) (v1 : Int) (M : am_M) : am_Rs :=
  c1 v1 0 0 M
set_option maxRecDepth 100000 in
theorem rs_X9_thereOf_53_e {x : Int} {M' : am_M} {c1 : Int → Int → Int → am_M → am_Rs} (h1 : ∀ w1 w2 w3 M, c1 w1 w2 w3 M = some (x, M') → am_R none 266 bk_X9_thereOf 1 (am_wr [56, 1, 1, 1] [w1, w2, w3]) [] SH M (am_rv (am_rk 266) x) SH M') (v1 : Int) (M : am_M) (h : XB_X9_thereOf_53_e c1 v1 M = some (x, M')) : am_R none 266 bk_X9_thereOf 0 (am_ent 4 [.inr (.inr (some 53)), .inl v1]) [] SH M (am_rv (am_rk 266) x) SH M' :=
  vRegion (sc := none) (sh := SH) (F := F_none) (k := 266) (bs := bk_X9_thereOf) (r := (x, M')) (C := fun t lv st M => if t = 1 then vCt [56, 1, 1, 1] (un3 c1) lv st M else none) ok_X9_thereOf fs_none (fun t lv st M h => by
    split at h
    · rename_i e; subst e; exact vCt_s (un3_s h1) h
    cases h) 19 0 (am_ent 4 [.inr (.inr (some 53)), .inl v1]) [] M h
noncomputable def XL_X9_thereOf_53_1 (k16 : Int → am_M → am_Rs) : Nat → Int → Int → Int → am_M → am_Rs
  | 0, _, _, _, _ => none
  | n + 1, v1, v2, v3, M => XB_X9_thereOf_53_1 (XL_X9_thereOf_53_1 k16 n) k16 v1 v2 v3 M
theorem ls_X9_thereOf_53_1 {x : Int} {M' : am_M} {k16 : Int → am_M → am_Rs} (hk16 : ∀ w2 M, k16 w2 M = some (x, M') → am_R none 266 bk_X9_thereOf 16 (am_wr [0, 0, 1, 0] [w2]) [] SH M (am_rv (am_rk 266) x) SH M') : ∀ (n : Nat) (v1 v2 v3 : Int) (M : am_M), XL_X9_thereOf_53_1 k16 n v1 v2 v3 M = some (x, M') → am_R none 266 bk_X9_thereOf 1 (am_wr [56, 1, 1, 1] [v1, v2, v3]) [] SH M (am_rv (am_rk 266) x) SH M'
  | 0, v1, v2, v3, M, h => by cases h
  | n + 1, v1, v2, v3, M, h => rs_X9_thereOf_53_1 (ls_X9_thereOf_53_1 hk16 n) hk16 v1 v2 v3 M h
noncomputable def X_X9_thereOf_53 (v1 : Int) (M : am_M) : am_Rs := XB_X9_thereOf_53_e (XL_X9_thereOf_53_1 (XB_X9_thereOf_53_16) 1000) v1 M
theorem dc_X9_thereOf_53 (v1 : Int) (M M' : am_M) (x : Int) (h : X_X9_thereOf_53 v1 M = some (x, M')) : am_Calls 266 [.inr (.inr (some 53)), .inl v1] SH M (am_rv (am_rk 266) x) SH M' :=
  am_enter pn_X9_thereOf ml_X9_thereOf rfl (Nat.le_of_ble_eq_true rfl) ⟨Nat.le_refl _, Nat.le_refl _⟩ (rs_X9_thereOf_53_e (ls_X9_thereOf_53_1 (rs_X9_thereOf_53_16) 1000) v1 M h)
noncomputable def F_X9_kindMany_53 : Nat → List am_V → am_M → am_Rs := fun k as M => if k = 203 then (match as with
  | [.inr (.inr (some 53)), .inl a1, .inl a2] => X_X9_isOf_53 a1 a2 M
  | _ => none) else none
theorem fs_X9_kindMany_53 : am_FS SH F_X9_kindMany_53 := by
  intro k as M x M' h
  unfold F_X9_kindMany_53 at h
  split at h
  · rename_i hk; subst hk
    split at h
    · exact dc_X9_isOf_53 _ _ _ _ _ h
    · cases h
  cases h
noncomputable def XB_X9_kindMany_53_1 (c1 : Int → Int → Int → am_M → am_Rs) (c6 : Int → am_M → am_Rs) (v1 v2 v3 : Int) (M : am_M) : am_Rs :=
  if wI v3 < wI (M 53 1) then
   (X_X9_isOf_53 v3 v1 M).bind fun z1 =>
   if wI z1.1 = 0 then
    c1 v1 (v2 + 0) (v3 + 1) z1.2
   else c1 v1 (v2 + 1) (v3 + 1) z1.2
  else c6 v2 M
set_option maxRecDepth 100000 in
theorem rs_X9_kindMany_53_1 {x : Int} {M' : am_M} {c1 : Int → Int → Int → am_M → am_Rs} {c6 : Int → am_M → am_Rs} (h1 : ∀ w1 w2 w3 M, c1 w1 w2 w3 M = some (x, M') → am_R none 265 bk_X9_kindMany 1 (am_wr [56, 1, 1, 1] [w1, w2, w3]) [] SH M (am_rv (am_rk 265) x) SH M') (h6 : ∀ w2 M, c6 w2 M = some (x, M') → am_R none 265 bk_X9_kindMany 6 (am_wr [0, 0, 1, 0] [w2]) [] SH M (am_rv (am_rk 265) x) SH M') (v1 v2 v3 : Int) (M : am_M) (h : XB_X9_kindMany_53_1 c1 c6 v1 v2 v3 M = some (x, M')) : am_R none 265 bk_X9_kindMany 1 (am_wr [56, 1, 1, 1] [v1, v2, v3]) [] SH M (am_rv (am_rk 265) x) SH M' :=
  vRegion (sc := none) (sh := SH) (F := F_X9_kindMany_53) (k := 265) (bs := bk_X9_kindMany) (r := (x, M')) (C := fun t lv st M => if t = 1 then vCt [56, 1, 1, 1] (un3 c1) lv st M else if t = 6 then vCt [0, 0, 1, 0] (un1 c6) lv st M else none) ok_X9_kindMany fs_X9_kindMany_53 (fun t lv st M h => by
    split at h
    · rename_i e; subst e; exact vCt_s (un3_s h1) h
    split at h
    · rename_i e; subst e; exact vCt_s (un1_s h6) h
    cases h) 9 1 (am_wr [56, 1, 1, 1] [v1, v2, v3]) [] M h
noncomputable def XB_X9_kindMany_53_6 (v2 : Int) (M : am_M) : am_Rs :=
  some (v2, M)
set_option maxRecDepth 100000 in
theorem rs_X9_kindMany_53_6 {x : Int} {M' : am_M} (v2 : Int) (M : am_M) (h : XB_X9_kindMany_53_6 v2 M = some (x, M')) : am_R none 265 bk_X9_kindMany 6 (am_wr [0, 0, 1, 0] [v2]) [] SH M (am_rv (am_rk 265) x) SH M' :=
  vRegion (sc := none) (sh := SH) (F := F_X9_kindMany_53) (k := 265) (bs := bk_X9_kindMany) (r := (x, M')) (C := fun t lv st M => none) ok_X9_kindMany fs_X9_kindMany_53 (fun t lv st M h => by
    cases h) 9 6 (am_wr [0, 0, 1, 0] [v2]) [] M h
noncomputable def XB_X9_kindMany_53_e (c1 : Int → Int → Int → am_M → am_Rs) (v1 : Int) (M : am_M) : am_Rs :=
  c1 v1 0 0 M
set_option maxRecDepth 100000 in
theorem rs_X9_kindMany_53_e {x : Int} {M' : am_M} {c1 : Int → Int → Int → am_M → am_Rs} (h1 : ∀ w1 w2 w3 M, c1 w1 w2 w3 M = some (x, M') → am_R none 265 bk_X9_kindMany 1 (am_wr [56, 1, 1, 1] [w1, w2, w3]) [] SH M (am_rv (am_rk 265) x) SH M') (v1 : Int) (M : am_M) (h : XB_X9_kindMany_53_e c1 v1 M = some (x, M')) : am_R none 265 bk_X9_kindMany 0 (am_ent 4 [.inr (.inr (some 53)), .inl v1]) [] SH M (am_rv (am_rk 265) x) SH M' :=
  vRegion (sc := none) (sh := SH) (F := F_X9_kindMany_53) (k := 265) (bs := bk_X9_kindMany) (r := (x, M')) (C := fun t lv st M => if t = 1 then vCt [56, 1, 1, 1] (un3 c1) lv st M else none) ok_X9_kindMany fs_X9_kindMany_53 (fun t lv st M h => by
    split at h
    · rename_i e; subst e; exact vCt_s (un3_s h1) h
    cases h) 9 0 (am_ent 4 [.inr (.inr (some 53)), .inl v1]) [] M h
noncomputable def XL_X9_kindMany_53_1 (k6 : Int → am_M → am_Rs) : Nat → Int → Int → Int → am_M → am_Rs
  | 0, _, _, _, _ => none
  | n + 1, v1, v2, v3, M => XB_X9_kindMany_53_1 (XL_X9_kindMany_53_1 k6 n) k6 v1 v2 v3 M
theorem ls_X9_kindMany_53_1 {x : Int} {M' : am_M} {k6 : Int → am_M → am_Rs} (hk6 : ∀ w2 M, k6 w2 M = some (x, M') → am_R none 265 bk_X9_kindMany 6 (am_wr [0, 0, 1, 0] [w2]) [] SH M (am_rv (am_rk 265) x) SH M') : ∀ (n : Nat) (v1 v2 v3 : Int) (M : am_M), XL_X9_kindMany_53_1 k6 n v1 v2 v3 M = some (x, M') → am_R none 265 bk_X9_kindMany 1 (am_wr [56, 1, 1, 1] [v1, v2, v3]) [] SH M (am_rv (am_rk 265) x) SH M'
  | 0, v1, v2, v3, M, h => by cases h
  | n + 1, v1, v2, v3, M, h => rs_X9_kindMany_53_1 (ls_X9_kindMany_53_1 hk6 n) hk6 v1 v2 v3 M h
noncomputable def X_X9_kindMany_53 (v1 : Int) (M : am_M) : am_Rs := XB_X9_kindMany_53_e (XL_X9_kindMany_53_1 (XB_X9_kindMany_53_6) 1000) v1 M
theorem dc_X9_kindMany_53 (v1 : Int) (M M' : am_M) (x : Int) (h : X_X9_kindMany_53 v1 M = some (x, M')) : am_Calls 265 [.inr (.inr (some 53)), .inl v1] SH M (am_rv (am_rk 265) x) SH M' :=
  am_enter pn_X9_kindMany ml_X9_kindMany rfl (Nat.le_of_ble_eq_true rfl) ⟨Nat.le_refl _, Nat.le_refl _⟩ (rs_X9_kindMany_53_e (ls_X9_kindMany_53_1 (rs_X9_kindMany_53_6) 1000) v1 M h)
noncomputable def F_X9_countOf_53 : Nat → List am_V → am_M → am_Rs := fun k as M => if k = 265 then (match as with
  | [.inr (.inr (some 53)), .inl a1] => X_X9_kindMany_53 a1 M
  | _ => none) else if k = 266 then (match as with
  | [.inr (.inr (some 53)), .inl a1] => X_X9_thereOf_53 a1 M
  | _ => none) else none
theorem fs_X9_countOf_53 : am_FS SH F_X9_countOf_53 := by
  intro k as M x M' h
  unfold F_X9_countOf_53 at h
  split at h
  · rename_i hk; subst hk
    split at h
    · exact dc_X9_kindMany_53 _ _ _ _ h
    · cases h
  split at h
  · rename_i hk; subst hk
    split at h
    · exact dc_X9_thereOf_53 _ _ _ _ h
    · cases h
  cases h
noncomputable def X_X9_countOf_53 (v1 : Int) (M : am_M) : am_Rs :=
  if wI v1 = 0 then
   some (M 53 1, M)
  else if wI v1 = 0 + 1 then
   some (M 54 0, M)
  else if wI v1 = 0 + 1 + 1 then
   if 0 ≤ wI ((2 + v1) - 2) ∧ wI ((2 + v1) - 2) < 605 then
   some (M 54 (wI ((2 + v1) - 2)).toNat, M)
   else none
  else if wI v1 = 0 + 1 + 1 + 1 then
   if 0 ≤ wI ((2 + v1) - 2) ∧ wI ((2 + v1) - 2) < 605 then
   some (M 54 (wI ((2 + v1) - 2)).toNat, M)
   else none
  else if wI v1 = 0 + 1 + 1 + 1 + 1 then
   (X_X9_kindMany_53 1 M).bind fun z1 =>
   some (z1.1, z1.2)
  else if wI v1 = 0 + 1 + 1 + 1 + 1 + 1 then
   (X_X9_kindMany_53 2 M).bind fun z1 =>
   some (z1.1, z1.2)
  else (X_X9_thereOf_53 v1 M).bind fun z1 =>
  some (z1.1, z1.2)
set_option maxRecDepth 100000 in
theorem dc_X9_countOf_53 (v1 : Int) (M M' : am_M) (x : Int) (h : X_X9_countOf_53 v1 M = some (x, M')) : am_Calls 267 [.inr (.inr (some 53)), .inl v1] SH M (am_rv (am_rk 267) x) SH M' :=
  vCall (F := F_X9_countOf_53) (C := fun _ _ _ _ => none) (fu := 9) ok_X9_countOf pn_X9_countOf ml_X9_countOf rfl (Nat.le_of_ble_eq_true rfl) fs_X9_countOf_53 (fun _ _ _ _ h => by cases h) h
noncomputable def F_X9_count_53 : Nat → List am_V → am_M → am_Rs := fun k as M => if k = 168 then (match as with
  | [.inr (.inl a0), .inr (.inl a2), .inr (.inl a4)] => X_X9_in a0 a2 a4 M
  | _ => none) else if k = 267 then (match as with
  | [.inr (.inr (some 53)), .inl a1] => X_X9_countOf_53 a1 M
  | _ => none) else none
theorem fs_X9_count_53 : am_FS SH F_X9_count_53 := by
  intro k as M x M' h
  unfold F_X9_count_53 at h
  split at h
  · rename_i hk; subst hk
    split at h
    · exact dc_X9_in _ _ _ _ _ _ h
    · cases h
  split at h
  · rename_i hk; subst hk
    split at h
    · exact dc_X9_countOf_53 _ _ _ _ h
    · cases h
  cases h
noncomputable def X_X9_count_53 (v1 : Int) (M : am_M) : am_Rs :=
  (X_X9_in (wI v1) 0 8 M).bind fun z1 =>
  if wI z1.1 = 0 then
   some ((-1), z1.2)
  else (X_X9_countOf_53 v1 z1.2).bind fun z2 =>
  some (z2.1, z2.2)
set_option maxRecDepth 100000 in
theorem dc_X9_count_53 (v1 : Int) (M M' : am_M) (x : Int) (h : X_X9_count_53 v1 M = some (x, M')) : am_Calls 268 [.inr (.inr (some 53)), .inl v1] SH M (am_rv (am_rk 268) x) SH M' :=
  vCall (F := F_X9_count_53) (C := fun _ _ _ _ => none) (fu := 6) ok_X9_count pn_X9_count ml_X9_count rfl (Nat.le_of_ble_eq_true rfl) fs_X9_count_53 (fun _ _ _ _ h => by cases h) h
noncomputable def X_X9_finding_53 (M : am_M) : am_Rs :=
  some (M 53 11, M)
set_option maxRecDepth 100000 in
theorem dc_X9_finding_53 (M M' : am_M) (x : Int) (h : X_X9_finding_53 M = some (x, M')) : am_Calls 269 [.inr (.inr (some 53))] SH M (am_rv (am_rk 269) x) SH M' :=
  vCall (F := F_none) (C := fun _ _ _ _ => none) (fu := 3) ok_X9_finding pn_X9_finding ml_X9_finding rfl (Nat.le_of_ble_eq_true rfl) fs_none (fun _ _ _ _ h => by cases h) h
noncomputable def F_X9_findings_53 : Nat → List am_V → am_M → am_Rs := fun k as M => if k = 168 then (match as with
  | [.inr (.inl a0), .inr (.inl a2), .inr (.inl a4)] => X_X9_in a0 a2 a4 M
  | _ => none) else none
theorem fs_X9_findings_53 : am_FS SH F_X9_findings_53 := by
  intro k as M x M' h
  unfold F_X9_findings_53 at h
  split at h
  · rename_i hk; subst hk
    split at h
    · exact dc_X9_in _ _ _ _ _ _ h
    · cases h
  cases h
noncomputable def X_X9_findings_53 (v1 : Int) (M : am_M) : am_Rs :=
  (X_X9_in (wI v1) 1 5 M).bind fun z1 =>
  if wI z1.1 = 0 then
   some ((-1), z1.2)
  else if 0 ≤ wI v1 ∧ wI v1 < 6 then
  some (z1.2 61 (wI v1).toNat, z1.2)
  else none
set_option maxRecDepth 100000 in
theorem dc_X9_findings_53 (v1 : Int) (M M' : am_M) (x : Int) (h : X_X9_findings_53 v1 M = some (x, M')) : am_Calls 270 [.inr (.inr (some 53)), .inl v1] SH M (am_rv (am_rk 270) x) SH M' :=
  vCall (F := F_X9_findings_53) (C := fun _ _ _ _ => none) (fu := 6) ok_X9_findings pn_X9_findings ml_X9_findings rfl (Nat.le_of_ble_eq_true rfl) fs_X9_findings_53 (fun _ _ _ _ h => by cases h) h
noncomputable def F_X9_digest_53 : Nat → List am_V → am_M → am_Rs := fun k as M => if k = 202 then (match as with
  | [.inr (.inr (some 53)), .inl a1, .inl a2] => X_X9_toldOf_53 a1 a2 M
  | _ => none) else if k = 267 then (match as with
  | [.inr (.inr (some 53)), .inl a1] => X_X9_countOf_53 a1 M
  | _ => none) else none
theorem fs_X9_digest_53 : am_FS SH F_X9_digest_53 := by
  intro k as M x M' h
  unfold F_X9_digest_53 at h
  split at h
  · rename_i hk; subst hk
    split at h
    · exact dc_X9_toldOf_53 _ _ _ _ _ h
    · cases h
  split at h
  · rename_i hk; subst hk
    split at h
    · exact dc_X9_countOf_53 _ _ _ _ h
    · cases h
  cases h
noncomputable def XB_X9_digest_53_1 (c1 : Int → Int → am_M → am_Rs) (c3 : Int → am_M → am_Rs) (v1 v3 : Int) (M : am_M) : am_Rs :=
  if wI v3 < 9 then
   (X_X9_countOf_53 v3 M).bind fun z1 =>
   c1 ((31 * v1) + (wI z1.1)) (v3 + 1) z1.2
  else c3 v1 M
set_option maxRecDepth 100000 in
theorem rs_X9_digest_53_1 {x : Int} {M' : am_M} {c1 : Int → Int → am_M → am_Rs} {c3 : Int → am_M → am_Rs} (h1 : ∀ w1 w3 M, c1 w1 w3 M = some (x, M') → am_R none 271 bk_X9_digest 1 (am_wr [56, 2, 0, 1, 0] [w1, w3]) [] SH M (am_rv (am_rk 271) x) SH M') (h3 : ∀ w1 M, c3 w1 M = some (x, M') → am_R none 271 bk_X9_digest 3 (am_wr [56, 2, 0, 0, 0] [w1]) [] SH M (am_rv (am_rk 271) x) SH M') (v1 v3 : Int) (M : am_M) (h : XB_X9_digest_53_1 c1 c3 v1 v3 M = some (x, M')) : am_R none 271 bk_X9_digest 1 (am_wr [56, 2, 0, 1, 0] [v1, v3]) [] SH M (am_rv (am_rk 271) x) SH M' :=
  vRegion (sc := none) (sh := SH) (F := F_X9_digest_53) (k := 271) (bs := bk_X9_digest) (r := (x, M')) (C := fun t lv st M => if t = 1 then vCt [56, 2, 0, 1, 0] (un2 c1) lv st M else if t = 3 then vCt [56, 2, 0, 0, 0] (un1 c3) lv st M else none) ok_X9_digest fs_X9_digest_53 (fun t lv st M h => by
    split at h
    · rename_i e; subst e; exact vCt_s (un2_s h1) h
    split at h
    · rename_i e; subst e; exact vCt_s (un1_s h3) h
    cases h) 24 1 (am_wr [56, 2, 0, 1, 0] [v1, v3]) [] M h
noncomputable def XB_X9_digest_53_3 (c4 : Int → Int → am_M → am_Rs) (v1 : Int) (M : am_M) : am_Rs :=
  c4 ((31 * v1) + (wI (M 54 1))) 0 M
set_option maxRecDepth 100000 in
theorem rs_X9_digest_53_3 {x : Int} {M' : am_M} {c4 : Int → Int → am_M → am_Rs} (h4 : ∀ w1 w3 M, c4 w1 w3 M = some (x, M') → am_R none 271 bk_X9_digest 4 (am_wr [56, 2, 0, 1, 0] [w1, w3]) [] SH M (am_rv (am_rk 271) x) SH M') (v1 : Int) (M : am_M) (h : XB_X9_digest_53_3 c4 v1 M = some (x, M')) : am_R none 271 bk_X9_digest 3 (am_wr [56, 2, 0, 0, 0] [v1]) [] SH M (am_rv (am_rk 271) x) SH M' :=
  vRegion (sc := none) (sh := SH) (F := F_X9_digest_53) (k := 271) (bs := bk_X9_digest) (r := (x, M')) (C := fun t lv st M => if t = 4 then vCt [56, 2, 0, 1, 0] (un2 c4) lv st M else none) ok_X9_digest fs_X9_digest_53 (fun t lv st M h => by
    split at h
    · rename_i e; subst e; exact vCt_s (un2_s h4) h
    cases h) 24 3 (am_wr [56, 2, 0, 0, 0] [v1]) [] M h
noncomputable def XB_X9_digest_53_4 (c4 : Int → Int → am_M → am_Rs) (c6 : Int → am_M → am_Rs) (v1 v3 : Int) (M : am_M) : am_Rs :=
  if wI v3 < wI (6 * (M 53 1)) then
   (X_X9_toldOf_53 ((wI v3).tdiv 6) ((wI v3).tmod 6) M).bind fun z1 =>
   c4 ((31 * v1) + (wI z1.1)) (v3 + 1) z1.2
  else c6 v1 M
set_option maxRecDepth 100000 in
theorem rs_X9_digest_53_4 {x : Int} {M' : am_M} {c4 : Int → Int → am_M → am_Rs} {c6 : Int → am_M → am_Rs} (h4 : ∀ w1 w3 M, c4 w1 w3 M = some (x, M') → am_R none 271 bk_X9_digest 4 (am_wr [56, 2, 0, 1, 0] [w1, w3]) [] SH M (am_rv (am_rk 271) x) SH M') (h6 : ∀ w1 M, c6 w1 M = some (x, M') → am_R none 271 bk_X9_digest 6 (am_wr [56, 2, 0, 0, 0] [w1]) [] SH M (am_rv (am_rk 271) x) SH M') (v1 v3 : Int) (M : am_M) (h : XB_X9_digest_53_4 c4 c6 v1 v3 M = some (x, M')) : am_R none 271 bk_X9_digest 4 (am_wr [56, 2, 0, 1, 0] [v1, v3]) [] SH M (am_rv (am_rk 271) x) SH M' :=
  vRegion (sc := none) (sh := SH) (F := F_X9_digest_53) (k := 271) (bs := bk_X9_digest) (r := (x, M')) (C := fun t lv st M => if t = 4 then vCt [56, 2, 0, 1, 0] (un2 c4) lv st M else if t = 6 then vCt [56, 2, 0, 0, 0] (un1 c6) lv st M else none) ok_X9_digest fs_X9_digest_53 (fun t lv st M h => by
    split at h
    · rename_i e; subst e; exact vCt_s (un2_s h4) h
    split at h
    · rename_i e; subst e; exact vCt_s (un1_s h6) h
    cases h) 24 4 (am_wr [56, 2, 0, 1, 0] [v1, v3]) [] M h
noncomputable def XB_X9_digest_53_6 (c7 : Int → Int → am_M → am_Rs) (v1 : Int) (M : am_M) : am_Rs :=
  c7 v1 1 M
set_option maxRecDepth 100000 in
theorem rs_X9_digest_53_6 {x : Int} {M' : am_M} {c7 : Int → Int → am_M → am_Rs} (h7 : ∀ w1 w3 M, c7 w1 w3 M = some (x, M') → am_R none 271 bk_X9_digest 7 (am_wr [56, 2, 0, 1, 0] [w1, w3]) [] SH M (am_rv (am_rk 271) x) SH M') (v1 : Int) (M : am_M) (h : XB_X9_digest_53_6 c7 v1 M = some (x, M')) : am_R none 271 bk_X9_digest 6 (am_wr [56, 2, 0, 0, 0] [v1]) [] SH M (am_rv (am_rk 271) x) SH M' :=
  vRegion (sc := none) (sh := SH) (F := F_X9_digest_53) (k := 271) (bs := bk_X9_digest) (r := (x, M')) (C := fun t lv st M => if t = 7 then vCt [56, 2, 0, 1, 0] (un2 c7) lv st M else none) ok_X9_digest fs_X9_digest_53 (fun t lv st M h => by
    split at h
    · rename_i e; subst e; exact vCt_s (un2_s h7) h
    cases h) 24 6 (am_wr [56, 2, 0, 0, 0] [v1]) [] M h
noncomputable def XB_X9_digest_53_7 (c7 : Int → Int → am_M → am_Rs) (c9 : Int → am_M → am_Rs) (v1 v3 : Int) (M : am_M) : am_Rs :=
  if wI v3 < 4 then
   if 0 ≤ wI ((121 * v3) + 0) ∧ wI ((121 * v3) + 0) < 605 then
   c7 ((31 * v1) + (wI (M 54 (wI ((121 * v3) + 0)).toNat))) (v3 + 1) M
   else none
  else c9 v1 M
set_option maxRecDepth 100000 in
theorem rs_X9_digest_53_7 {x : Int} {M' : am_M} {c7 : Int → Int → am_M → am_Rs} {c9 : Int → am_M → am_Rs} (h7 : ∀ w1 w3 M, c7 w1 w3 M = some (x, M') → am_R none 271 bk_X9_digest 7 (am_wr [56, 2, 0, 1, 0] [w1, w3]) [] SH M (am_rv (am_rk 271) x) SH M') (h9 : ∀ w1 M, c9 w1 M = some (x, M') → am_R none 271 bk_X9_digest 9 (am_wr [56, 2, 0, 0, 0] [w1]) [] SH M (am_rv (am_rk 271) x) SH M') (v1 v3 : Int) (M : am_M) (h : XB_X9_digest_53_7 c7 c9 v1 v3 M = some (x, M')) : am_R none 271 bk_X9_digest 7 (am_wr [56, 2, 0, 1, 0] [v1, v3]) [] SH M (am_rv (am_rk 271) x) SH M' :=
  vRegion (sc := none) (sh := SH) (F := F_X9_digest_53) (k := 271) (bs := bk_X9_digest) (r := (x, M')) (C := fun t lv st M => if t = 7 then vCt [56, 2, 0, 1, 0] (un2 c7) lv st M else if t = 9 then vCt [56, 2, 0, 0, 0] (un1 c9) lv st M else none) ok_X9_digest fs_X9_digest_53 (fun t lv st M h => by
    split at h
    · rename_i e; subst e; exact vCt_s (un2_s h7) h
    split at h
    · rename_i e; subst e; exact vCt_s (un1_s h9) h
    cases h) 24 7 (am_wr [56, 2, 0, 1, 0] [v1, v3]) [] M h
noncomputable def XB_X9_digest_53_9 (c10 : Int → Int → am_M → am_Rs) (v1 : Int) (M : am_M) : am_Rs :=
  c10 v1 0 M
set_option maxRecDepth 100000 in
theorem rs_X9_digest_53_9 {x : Int} {M' : am_M} {c10 : Int → Int → am_M → am_Rs} (h10 : ∀ w1 w3 M, c10 w1 w3 M = some (x, M') → am_R none 271 bk_X9_digest 10 (am_wr [56, 2, 0, 1, 0] [w1, w3]) [] SH M (am_rv (am_rk 271) x) SH M') (v1 : Int) (M : am_M) (h : XB_X9_digest_53_9 c10 v1 M = some (x, M')) : am_R none 271 bk_X9_digest 9 (am_wr [56, 2, 0, 0, 0] [v1]) [] SH M (am_rv (am_rk 271) x) SH M' :=
  vRegion (sc := none) (sh := SH) (F := F_X9_digest_53) (k := 271) (bs := bk_X9_digest) (r := (x, M')) (C := fun t lv st M => if t = 10 then vCt [56, 2, 0, 1, 0] (un2 c10) lv st M else none) ok_X9_digest fs_X9_digest_53 (fun t lv st M h => by
    split at h
    · rename_i e; subst e; exact vCt_s (un2_s h10) h
    cases h) 24 9 (am_wr [56, 2, 0, 0, 0] [v1]) [] M h
noncomputable def XB_X9_digest_53_10 (c12 : Int → Int → Int → am_M → am_Rs) (c15 : Int → am_M → am_Rs) (v1 v3 : Int) (M : am_M) : am_Rs :=
  if wI v3 < 6 then
   if 0 ≤ wI v3 ∧ wI v3 < 6 then
   c12 ((31 * v1) + (wI (M 57 (wI v3).toNat))) v3 0 M
   else none
  else c15 v1 M
set_option maxRecDepth 100000 in
theorem rs_X9_digest_53_10 {x : Int} {M' : am_M} {c12 : Int → Int → Int → am_M → am_Rs} {c15 : Int → am_M → am_Rs} (h12 : ∀ w1 w3 w4 M, c12 w1 w3 w4 M = some (x, M') → am_R none 271 bk_X9_digest 12 (am_wr [56, 2, 0, 1, 1] [w1, w3, w4]) [] SH M (am_rv (am_rk 271) x) SH M') (h15 : ∀ w1 M, c15 w1 M = some (x, M') → am_R none 271 bk_X9_digest 15 (am_wr [56, 2, 0, 0, 0] [w1]) [] SH M (am_rv (am_rk 271) x) SH M') (v1 v3 : Int) (M : am_M) (h : XB_X9_digest_53_10 c12 c15 v1 v3 M = some (x, M')) : am_R none 271 bk_X9_digest 10 (am_wr [56, 2, 0, 1, 0] [v1, v3]) [] SH M (am_rv (am_rk 271) x) SH M' :=
  vRegion (sc := none) (sh := SH) (F := F_X9_digest_53) (k := 271) (bs := bk_X9_digest) (r := (x, M')) (C := fun t lv st M => if t = 12 then vCt [56, 2, 0, 1, 1] (un3 c12) lv st M else if t = 15 then vCt [56, 2, 0, 0, 0] (un1 c15) lv st M else none) ok_X9_digest fs_X9_digest_53 (fun t lv st M h => by
    split at h
    · rename_i e; subst e; exact vCt_s (un3_s h12) h
    split at h
    · rename_i e; subst e; exact vCt_s (un1_s h15) h
    cases h) 24 10 (am_wr [56, 2, 0, 1, 0] [v1, v3]) [] M h
noncomputable def XB_X9_digest_53_12 (c12 : Int → Int → Int → am_M → am_Rs) (c14 : Int → Int → am_M → am_Rs) (v1 v3 v4 : Int) (M : am_M) : am_Rs :=
  if 0 ≤ wI v3 ∧ wI v3 < 6 then
  if wI v4 < wI (M 57 (wI v3).toNat) then
    if 0 ≤ wI ((40 * v3) + v4) ∧ wI ((40 * v3) + v4) < 240 then
    c12 ((31 * v1) + (wI (M 58 (wI ((40 * v3) + v4)).toNat))) v3 (v4 + 1) M
    else none
   else c14 v1 v3 M
  else none
set_option maxRecDepth 100000 in
theorem rs_X9_digest_53_12 {x : Int} {M' : am_M} {c12 : Int → Int → Int → am_M → am_Rs} {c14 : Int → Int → am_M → am_Rs} (h12 : ∀ w1 w3 w4 M, c12 w1 w3 w4 M = some (x, M') → am_R none 271 bk_X9_digest 12 (am_wr [56, 2, 0, 1, 1] [w1, w3, w4]) [] SH M (am_rv (am_rk 271) x) SH M') (h14 : ∀ w1 w3 M, c14 w1 w3 M = some (x, M') → am_R none 271 bk_X9_digest 14 (am_wr [56, 2, 0, 1, 0] [w1, w3]) [] SH M (am_rv (am_rk 271) x) SH M') (v1 v3 v4 : Int) (M : am_M) (h : XB_X9_digest_53_12 c12 c14 v1 v3 v4 M = some (x, M')) : am_R none 271 bk_X9_digest 12 (am_wr [56, 2, 0, 1, 1] [v1, v3, v4]) [] SH M (am_rv (am_rk 271) x) SH M' :=
  vRegion (sc := none) (sh := SH) (F := F_X9_digest_53) (k := 271) (bs := bk_X9_digest) (r := (x, M')) (C := fun t lv st M => if t = 12 then vCt [56, 2, 0, 1, 1] (un3 c12) lv st M else if t = 14 then vCt [56, 2, 0, 1, 0] (un2 c14) lv st M else none) ok_X9_digest fs_X9_digest_53 (fun t lv st M h => by
    split at h
    · rename_i e; subst e; exact vCt_s (un3_s h12) h
    split at h
    · rename_i e; subst e; exact vCt_s (un2_s h14) h
    cases h) 24 12 (am_wr [56, 2, 0, 1, 1] [v1, v3, v4]) [] M h
noncomputable def XB_X9_digest_53_15 (c16 : Int → Int → am_M → am_Rs) (v1 : Int) (M : am_M) : am_Rs :=
  c16 v1 0 M
set_option maxRecDepth 100000 in
theorem rs_X9_digest_53_15 {x : Int} {M' : am_M} {c16 : Int → Int → am_M → am_Rs} (h16 : ∀ w1 w3 M, c16 w1 w3 M = some (x, M') → am_R none 271 bk_X9_digest 16 (am_wr [56, 2, 0, 1, 0] [w1, w3]) [] SH M (am_rv (am_rk 271) x) SH M') (v1 : Int) (M : am_M) (h : XB_X9_digest_53_15 c16 v1 M = some (x, M')) : am_R none 271 bk_X9_digest 15 (am_wr [56, 2, 0, 0, 0] [v1]) [] SH M (am_rv (am_rk 271) x) SH M' :=
  vRegion (sc := none) (sh := SH) (F := F_X9_digest_53) (k := 271) (bs := bk_X9_digest) (r := (x, M')) (C := fun t lv st M => if t = 16 then vCt [56, 2, 0, 1, 0] (un2 c16) lv st M else none) ok_X9_digest fs_X9_digest_53 (fun t lv st M h => by
    split at h
    · rename_i e; subst e; exact vCt_s (un2_s h16) h
    cases h) 24 15 (am_wr [56, 2, 0, 0, 0] [v1]) [] M h
noncomputable def XB_X9_digest_53_14 (c10 : Int → Int → am_M → am_Rs) (v1 v3 : Int) (M : am_M) : am_Rs :=
  c10 v1 (v3 + 1) M
set_option maxRecDepth 100000 in
theorem rs_X9_digest_53_14 {x : Int} {M' : am_M} {c10 : Int → Int → am_M → am_Rs} (h10 : ∀ w1 w3 M, c10 w1 w3 M = some (x, M') → am_R none 271 bk_X9_digest 10 (am_wr [56, 2, 0, 1, 0] [w1, w3]) [] SH M (am_rv (am_rk 271) x) SH M') (v1 v3 : Int) (M : am_M) (h : XB_X9_digest_53_14 c10 v1 v3 M = some (x, M')) : am_R none 271 bk_X9_digest 14 (am_wr [56, 2, 0, 1, 0] [v1, v3]) [] SH M (am_rv (am_rk 271) x) SH M' :=
  vRegion (sc := none) (sh := SH) (F := F_X9_digest_53) (k := 271) (bs := bk_X9_digest) (r := (x, M')) (C := fun t lv st M => if t = 10 then vCt [56, 2, 0, 1, 0] (un2 c10) lv st M else none) ok_X9_digest fs_X9_digest_53 (fun t lv st M h => by
    split at h
    · rename_i e; subst e; exact vCt_s (un2_s h10) h
    cases h) 24 14 (am_wr [56, 2, 0, 1, 0] [v1, v3]) [] M h
noncomputable def XB_X9_digest_53_16 (c18 : Int → Int → Int → am_M → am_Rs) (c21 : Int → am_M → am_Rs) (v1 v3 : Int) (M : am_M) : am_Rs :=
  if wI v3 < 4 then
   if 0 ≤ wI v3 ∧ wI v3 < 4 then
   c18 ((31 * v1) + (wI (M 59 (wI v3).toNat))) v3 0 M
   else none
  else c21 v1 M
set_option maxRecDepth 100000 in
theorem rs_X9_digest_53_16 {x : Int} {M' : am_M} {c18 : Int → Int → Int → am_M → am_Rs} {c21 : Int → am_M → am_Rs} (h18 : ∀ w1 w3 w4 M, c18 w1 w3 w4 M = some (x, M') → am_R none 271 bk_X9_digest 18 (am_wr [56, 2, 0, 1, 1] [w1, w3, w4]) [] SH M (am_rv (am_rk 271) x) SH M') (h21 : ∀ w1 M, c21 w1 M = some (x, M') → am_R none 271 bk_X9_digest 21 (am_wr [0, 2, 0, 0, 0] [w1]) [] SH M (am_rv (am_rk 271) x) SH M') (v1 v3 : Int) (M : am_M) (h : XB_X9_digest_53_16 c18 c21 v1 v3 M = some (x, M')) : am_R none 271 bk_X9_digest 16 (am_wr [56, 2, 0, 1, 0] [v1, v3]) [] SH M (am_rv (am_rk 271) x) SH M' :=
  vRegion (sc := none) (sh := SH) (F := F_X9_digest_53) (k := 271) (bs := bk_X9_digest) (r := (x, M')) (C := fun t lv st M => if t = 18 then vCt [56, 2, 0, 1, 1] (un3 c18) lv st M else if t = 21 then vCt [0, 2, 0, 0, 0] (un1 c21) lv st M else none) ok_X9_digest fs_X9_digest_53 (fun t lv st M h => by
    split at h
    · rename_i e; subst e; exact vCt_s (un3_s h18) h
    split at h
    · rename_i e; subst e; exact vCt_s (un1_s h21) h
    cases h) 24 16 (am_wr [56, 2, 0, 1, 0] [v1, v3]) [] M h
noncomputable def XB_X9_digest_53_18 (c18 : Int → Int → Int → am_M → am_Rs) (c20 : Int → Int → am_M → am_Rs) (v1 v3 v4 : Int) (M : am_M) : am_Rs :=
  if 0 ≤ wI v3 ∧ wI v3 < 4 then
  if wI v4 < wI (M 59 (wI v3).toNat) then
    if 0 ≤ wI ((60 * v3) + v4) ∧ wI ((60 * v3) + v4) < 240 then
    c18 ((31 * v1) + (wI (M 60 (wI ((60 * v3) + v4)).toNat))) v3 (v4 + 1) M
    else none
   else c20 v1 v3 M
  else none
set_option maxRecDepth 100000 in
theorem rs_X9_digest_53_18 {x : Int} {M' : am_M} {c18 : Int → Int → Int → am_M → am_Rs} {c20 : Int → Int → am_M → am_Rs} (h18 : ∀ w1 w3 w4 M, c18 w1 w3 w4 M = some (x, M') → am_R none 271 bk_X9_digest 18 (am_wr [56, 2, 0, 1, 1] [w1, w3, w4]) [] SH M (am_rv (am_rk 271) x) SH M') (h20 : ∀ w1 w3 M, c20 w1 w3 M = some (x, M') → am_R none 271 bk_X9_digest 20 (am_wr [56, 2, 0, 1, 0] [w1, w3]) [] SH M (am_rv (am_rk 271) x) SH M') (v1 v3 v4 : Int) (M : am_M) (h : XB_X9_digest_53_18 c18 c20 v1 v3 v4 M = some (x, M')) : am_R none 271 bk_X9_digest 18 (am_wr [56, 2, 0, 1, 1] [v1, v3, v4]) [] SH M (am_rv (am_rk 271) x) SH M' :=
  vRegion (sc := none) (sh := SH) (F := F_X9_digest_53) (k := 271) (bs := bk_X9_digest) (r := (x, M')) (C := fun t lv st M => if t = 18 then vCt [56, 2, 0, 1, 1] (un3 c18) lv st M else if t = 20 then vCt [56, 2, 0, 1, 0] (un2 c20) lv st M else none) ok_X9_digest fs_X9_digest_53 (fun t lv st M h => by
    split at h
    · rename_i e; subst e; exact vCt_s (un3_s h18) h
    split at h
    · rename_i e; subst e; exact vCt_s (un2_s h20) h
    cases h) 24 18 (am_wr [56, 2, 0, 1, 1] [v1, v3, v4]) [] M h
noncomputable def XB_X9_digest_53_21 (v1 : Int) (M : am_M) : am_Rs :=
  some (v1, M)
set_option maxRecDepth 100000 in
theorem rs_X9_digest_53_21 {x : Int} {M' : am_M} (v1 : Int) (M : am_M) (h : XB_X9_digest_53_21 v1 M = some (x, M')) : am_R none 271 bk_X9_digest 21 (am_wr [0, 2, 0, 0, 0] [v1]) [] SH M (am_rv (am_rk 271) x) SH M' :=
  vRegion (sc := none) (sh := SH) (F := F_X9_digest_53) (k := 271) (bs := bk_X9_digest) (r := (x, M')) (C := fun t lv st M => none) ok_X9_digest fs_X9_digest_53 (fun t lv st M h => by
    cases h) 24 21 (am_wr [0, 2, 0, 0, 0] [v1]) [] M h
noncomputable def XB_X9_digest_53_20 (c16 : Int → Int → am_M → am_Rs) (v1 v3 : Int) (M : am_M) : am_Rs :=
  c16 v1 (v3 + 1) M
set_option maxRecDepth 100000 in
theorem rs_X9_digest_53_20 {x : Int} {M' : am_M} {c16 : Int → Int → am_M → am_Rs} (h16 : ∀ w1 w3 M, c16 w1 w3 M = some (x, M') → am_R none 271 bk_X9_digest 16 (am_wr [56, 2, 0, 1, 0] [w1, w3]) [] SH M (am_rv (am_rk 271) x) SH M') (v1 v3 : Int) (M : am_M) (h : XB_X9_digest_53_20 c16 v1 v3 M = some (x, M')) : am_R none 271 bk_X9_digest 20 (am_wr [56, 2, 0, 1, 0] [v1, v3]) [] SH M (am_rv (am_rk 271) x) SH M' :=
  vRegion (sc := none) (sh := SH) (F := F_X9_digest_53) (k := 271) (bs := bk_X9_digest) (r := (x, M')) (C := fun t lv st M => if t = 16 then vCt [56, 2, 0, 1, 0] (un2 c16) lv st M else none) ok_X9_digest fs_X9_digest_53 (fun t lv st M h => by
    split at h
    · rename_i e; subst e; exact vCt_s (un2_s h16) h
    cases h) 24 20 (am_wr [56, 2, 0, 1, 0] [v1, v3]) [] M h
noncomputable def XB_X9_digest_53_e (c1 : Int → Int → am_M → am_Rs) (M : am_M) : am_Rs :=
  c1 17 0 M
set_option maxRecDepth 100000 in
theorem rs_X9_digest_53_e {x : Int} {M' : am_M} {c1 : Int → Int → am_M → am_Rs} (h1 : ∀ w1 w3 M, c1 w1 w3 M = some (x, M') → am_R none 271 bk_X9_digest 1 (am_wr [56, 2, 0, 1, 0] [w1, w3]) [] SH M (am_rv (am_rk 271) x) SH M') (M : am_M) (h : XB_X9_digest_53_e c1 M = some (x, M')) : am_R none 271 bk_X9_digest 0 (am_ent 5 [.inr (.inr (some 53))]) [] SH M (am_rv (am_rk 271) x) SH M' :=
  vRegion (sc := none) (sh := SH) (F := F_X9_digest_53) (k := 271) (bs := bk_X9_digest) (r := (x, M')) (C := fun t lv st M => if t = 1 then vCt [56, 2, 0, 1, 0] (un2 c1) lv st M else none) ok_X9_digest fs_X9_digest_53 (fun t lv st M h => by
    split at h
    · rename_i e; subst e; exact vCt_s (un2_s h1) h
    cases h) 24 0 (am_ent 5 [.inr (.inr (some 53))]) [] M h
noncomputable def XL_X9_digest_53_1 (k3 : Int → am_M → am_Rs) : Nat → Int → Int → am_M → am_Rs
  | 0, _, _, _ => none
  | n + 1, v1, v3, M => XB_X9_digest_53_1 (XL_X9_digest_53_1 k3 n) k3 v1 v3 M
theorem ls_X9_digest_53_1 {x : Int} {M' : am_M} {k3 : Int → am_M → am_Rs} (hk3 : ∀ w1 M, k3 w1 M = some (x, M') → am_R none 271 bk_X9_digest 3 (am_wr [56, 2, 0, 0, 0] [w1]) [] SH M (am_rv (am_rk 271) x) SH M') : ∀ (n : Nat) (v1 v3 : Int) (M : am_M), XL_X9_digest_53_1 k3 n v1 v3 M = some (x, M') → am_R none 271 bk_X9_digest 1 (am_wr [56, 2, 0, 1, 0] [v1, v3]) [] SH M (am_rv (am_rk 271) x) SH M'
  | 0, v1, v3, M, h => by cases h
  | n + 1, v1, v3, M, h => rs_X9_digest_53_1 (ls_X9_digest_53_1 hk3 n) hk3 v1 v3 M h
noncomputable def XL_X9_digest_53_4 (k6 : Int → am_M → am_Rs) : Nat → Int → Int → am_M → am_Rs
  | 0, _, _, _ => none
  | n + 1, v1, v3, M => XB_X9_digest_53_4 (XL_X9_digest_53_4 k6 n) k6 v1 v3 M
theorem ls_X9_digest_53_4 {x : Int} {M' : am_M} {k6 : Int → am_M → am_Rs} (hk6 : ∀ w1 M, k6 w1 M = some (x, M') → am_R none 271 bk_X9_digest 6 (am_wr [56, 2, 0, 0, 0] [w1]) [] SH M (am_rv (am_rk 271) x) SH M') : ∀ (n : Nat) (v1 v3 : Int) (M : am_M), XL_X9_digest_53_4 k6 n v1 v3 M = some (x, M') → am_R none 271 bk_X9_digest 4 (am_wr [56, 2, 0, 1, 0] [v1, v3]) [] SH M (am_rv (am_rk 271) x) SH M'
  | 0, v1, v3, M, h => by cases h
  | n + 1, v1, v3, M, h => rs_X9_digest_53_4 (ls_X9_digest_53_4 hk6 n) hk6 v1 v3 M h
noncomputable def XL_X9_digest_53_7 (k9 : Int → am_M → am_Rs) : Nat → Int → Int → am_M → am_Rs
  | 0, _, _, _ => none
  | n + 1, v1, v3, M => XB_X9_digest_53_7 (XL_X9_digest_53_7 k9 n) k9 v1 v3 M
theorem ls_X9_digest_53_7 {x : Int} {M' : am_M} {k9 : Int → am_M → am_Rs} (hk9 : ∀ w1 M, k9 w1 M = some (x, M') → am_R none 271 bk_X9_digest 9 (am_wr [56, 2, 0, 0, 0] [w1]) [] SH M (am_rv (am_rk 271) x) SH M') : ∀ (n : Nat) (v1 v3 : Int) (M : am_M), XL_X9_digest_53_7 k9 n v1 v3 M = some (x, M') → am_R none 271 bk_X9_digest 7 (am_wr [56, 2, 0, 1, 0] [v1, v3]) [] SH M (am_rv (am_rk 271) x) SH M'
  | 0, v1, v3, M, h => by cases h
  | n + 1, v1, v3, M, h => rs_X9_digest_53_7 (ls_X9_digest_53_7 hk9 n) hk9 v1 v3 M h
noncomputable def XL_X9_digest_53_12 (k14 : Int → Int → am_M → am_Rs) : Nat → Int → Int → Int → am_M → am_Rs
  | 0, _, _, _, _ => none
  | n + 1, v1, v3, v4, M => XB_X9_digest_53_12 (XL_X9_digest_53_12 k14 n) k14 v1 v3 v4 M
theorem ls_X9_digest_53_12 {x : Int} {M' : am_M} {k14 : Int → Int → am_M → am_Rs} (hk14 : ∀ w1 w3 M, k14 w1 w3 M = some (x, M') → am_R none 271 bk_X9_digest 14 (am_wr [56, 2, 0, 1, 0] [w1, w3]) [] SH M (am_rv (am_rk 271) x) SH M') : ∀ (n : Nat) (v1 v3 v4 : Int) (M : am_M), XL_X9_digest_53_12 k14 n v1 v3 v4 M = some (x, M') → am_R none 271 bk_X9_digest 12 (am_wr [56, 2, 0, 1, 1] [v1, v3, v4]) [] SH M (am_rv (am_rk 271) x) SH M'
  | 0, v1, v3, v4, M, h => by cases h
  | n + 1, v1, v3, v4, M, h => rs_X9_digest_53_12 (ls_X9_digest_53_12 hk14 n) hk14 v1 v3 v4 M h
noncomputable def XL_X9_digest_53_10 (k15 : Int → am_M → am_Rs) : Nat → Int → Int → am_M → am_Rs
  | 0, _, _, _ => none
  | n + 1, v1, v3, M => XB_X9_digest_53_10 (XL_X9_digest_53_12 (XB_X9_digest_53_14 (XL_X9_digest_53_10 k15 n)) 1000) k15 v1 v3 M
theorem ls_X9_digest_53_10 {x : Int} {M' : am_M} {k15 : Int → am_M → am_Rs} (hk15 : ∀ w1 M, k15 w1 M = some (x, M') → am_R none 271 bk_X9_digest 15 (am_wr [56, 2, 0, 0, 0] [w1]) [] SH M (am_rv (am_rk 271) x) SH M') : ∀ (n : Nat) (v1 v3 : Int) (M : am_M), XL_X9_digest_53_10 k15 n v1 v3 M = some (x, M') → am_R none 271 bk_X9_digest 10 (am_wr [56, 2, 0, 1, 0] [v1, v3]) [] SH M (am_rv (am_rk 271) x) SH M'
  | 0, v1, v3, M, h => by cases h
  | n + 1, v1, v3, M, h => rs_X9_digest_53_10 (ls_X9_digest_53_12 (rs_X9_digest_53_14 (ls_X9_digest_53_10 hk15 n)) 1000) hk15 v1 v3 M h
noncomputable def XL_X9_digest_53_18 (k20 : Int → Int → am_M → am_Rs) : Nat → Int → Int → Int → am_M → am_Rs
  | 0, _, _, _, _ => none
  | n + 1, v1, v3, v4, M => XB_X9_digest_53_18 (XL_X9_digest_53_18 k20 n) k20 v1 v3 v4 M
theorem ls_X9_digest_53_18 {x : Int} {M' : am_M} {k20 : Int → Int → am_M → am_Rs} (hk20 : ∀ w1 w3 M, k20 w1 w3 M = some (x, M') → am_R none 271 bk_X9_digest 20 (am_wr [56, 2, 0, 1, 0] [w1, w3]) [] SH M (am_rv (am_rk 271) x) SH M') : ∀ (n : Nat) (v1 v3 v4 : Int) (M : am_M), XL_X9_digest_53_18 k20 n v1 v3 v4 M = some (x, M') → am_R none 271 bk_X9_digest 18 (am_wr [56, 2, 0, 1, 1] [v1, v3, v4]) [] SH M (am_rv (am_rk 271) x) SH M'
  | 0, v1, v3, v4, M, h => by cases h
  | n + 1, v1, v3, v4, M, h => rs_X9_digest_53_18 (ls_X9_digest_53_18 hk20 n) hk20 v1 v3 v4 M h
noncomputable def XL_X9_digest_53_16 (k21 : Int → am_M → am_Rs) : Nat → Int → Int → am_M → am_Rs
  | 0, _, _, _ => none
  | n + 1, v1, v3, M => XB_X9_digest_53_16 (XL_X9_digest_53_18 (XB_X9_digest_53_20 (XL_X9_digest_53_16 k21 n)) 1000) k21 v1 v3 M
theorem ls_X9_digest_53_16 {x : Int} {M' : am_M} {k21 : Int → am_M → am_Rs} (hk21 : ∀ w1 M, k21 w1 M = some (x, M') → am_R none 271 bk_X9_digest 21 (am_wr [0, 2, 0, 0, 0] [w1]) [] SH M (am_rv (am_rk 271) x) SH M') : ∀ (n : Nat) (v1 v3 : Int) (M : am_M), XL_X9_digest_53_16 k21 n v1 v3 M = some (x, M') → am_R none 271 bk_X9_digest 16 (am_wr [56, 2, 0, 1, 0] [v1, v3]) [] SH M (am_rv (am_rk 271) x) SH M'
  | 0, v1, v3, M, h => by cases h
  | n + 1, v1, v3, M, h => rs_X9_digest_53_16 (ls_X9_digest_53_18 (rs_X9_digest_53_20 (ls_X9_digest_53_16 hk21 n)) 1000) hk21 v1 v3 M h
noncomputable def X_X9_digest_53 (M : am_M) : am_Rs := XB_X9_digest_53_e (XL_X9_digest_53_1 (XB_X9_digest_53_3 (XL_X9_digest_53_4 (XB_X9_digest_53_6 (XL_X9_digest_53_7 (XB_X9_digest_53_9 (XL_X9_digest_53_10 (XB_X9_digest_53_15 (XL_X9_digest_53_16 (XB_X9_digest_53_21) 1000)) 1000)) 1000)) 1000)) 1000) M
theorem dc_X9_digest_53 (M M' : am_M) (x : Int) (h : X_X9_digest_53 M = some (x, M')) : am_Calls 271 [.inr (.inr (some 53))] SH M (am_rv (am_rk 271) x) SH M' :=
  am_enter pn_X9_digest ml_X9_digest rfl (Nat.le_of_ble_eq_true rfl) ⟨Nat.le_refl _, Nat.le_refl _⟩ (rs_X9_digest_53_e (ls_X9_digest_53_1 (rs_X9_digest_53_3 (ls_X9_digest_53_4 (rs_X9_digest_53_6 (ls_X9_digest_53_7 (rs_X9_digest_53_9 (ls_X9_digest_53_10 (rs_X9_digest_53_15 (ls_X9_digest_53_16 (rs_X9_digest_53_21) 1000)) 1000)) 1000)) 1000)) 1000) M h)
end
section
/-! Makings: the small machine run on data; what is written since the start is a list, newest first. -/
noncomputable abbrev cU : Type := List (Nat × Option (Nat × Int))
noncomputable abbrev cR : Type := Option (am_Sh × cU)
noncomputable abbrev cK : Type := am_Lv → List am_V → am_Sh → cU → cR
noncomputable def cm : cU → am_M
  | [] => fun _ _ => 0
  | (a, none) :: u => am_row (cm u) a (fun _ => 0)
  | (a, some q) :: u => am_up (cm u) a q.1 q.2
noncomputable def cg : cU → Nat → Nat → Int
  | [], _, _ => 0
  | (b, none) :: u, a, j => if a = b then 0 else cg u a j
  | (b, some q) :: u, a, j => if a = b ∧ j = q.1 then q.2 else cg u a j
theorem cg_e : ∀ (u : cU) (a j : Nat), cm u a j = cg u a j
  | [], _, _ => rfl
  | (b, none) :: u, a, j => by
    simp only [cm, cg, am_row]
    split
    · rfl
    · exact cg_e u a j
  | (b, some q) :: u, a, j => by
    simp only [cm, cg, am_up]
    by_cases h1 : a = b
    · by_cases h2 : j = q.1
      · rw [if_pos h1, if_pos h2, if_pos ⟨h1, h2⟩]
      · rw [if_pos h1, if_neg h2, if_neg (fun h => h2 h.2)]; exact cg_e u a j
    · rw [if_neg h1, if_neg (fun h => h1 h.1)]; exact cg_e u a j
noncomputable def qI (st : List am_V) (K : Int → List am_V → cR) : cR := match st with
  | .inl x :: s => K x s
  | _ => none
noncomputable def qL (st : List am_V) (K : Int → List am_V → cR) : cR := match st with
  | .inr (.inl x) :: s => K x s
  | _ => none
noncomputable def qR (st : List am_V) (K : Nat → List am_V → cR) : cR := match st with
  | .inr (.inr (some a)) :: s => K a s
  | _ => none
noncomputable def qX (st : List am_V) (K : Option Nat → List am_V → cR) : cR := match st with
  | .inr (.inr a) :: s => K a s
  | _ => none
noncomputable def qV (st : List am_V) (K : am_V → List am_V → cR) : cR := match st with
  | v :: s => K v s
  | _ => none
noncomputable def qC (sh : am_Sh) (a : Nat) (K : am_S → cR) : cR := match sh[a]? with
  | some q => K q
  | none => none
noncomputable def qF (x : Option Nat) (K : Nat → cR) : cR := match x with
  | some a => K a
  | none => none
noncomputable def kI (lv : am_Lv) (n : Nat) (K : Int → cR) : cR := match lv[n]? with
  | some (some (.inl x)) => K x
  | _ => none
noncomputable def kX (lv : am_Lv) (n : Nat) (K : Option Nat → cR) : cR := match lv[n]? with
  | some (some (.inr (.inr x))) => K x
  | _ => none
noncomputable def qA (n : Nat) (st : List am_V) (K : List am_V → List am_V → cR) : cR := match am_pop n st [] with
  | some q => K q.1 q.2
  | none => none
theorem qI_e {st : List am_V} {K : Int → List am_V → cR} {r : am_Sh × cU} (h : qI st K = some r) : ∃ x s, st = .inl x :: s ∧ K x s = some r := by
  unfold qI at h; split at h
  · exact ⟨_, _, rfl, h⟩
  · cases h
theorem qL_e {st : List am_V} {K : Int → List am_V → cR} {r : am_Sh × cU} (h : qL st K = some r) : ∃ x s, st = .inr (.inl x) :: s ∧ K x s = some r := by
  unfold qL at h; split at h
  · exact ⟨_, _, rfl, h⟩
  · cases h
theorem qR_e {st : List am_V} {K : Nat → List am_V → cR} {r : am_Sh × cU} (h : qR st K = some r) : ∃ x s, st = .inr (.inr (some x)) :: s ∧ K x s = some r := by
  unfold qR at h; split at h
  · exact ⟨_, _, rfl, h⟩
  · cases h
theorem qX_e {st : List am_V} {K : Option Nat → List am_V → cR} {r : am_Sh × cU} (h : qX st K = some r) : ∃ x s, st = .inr (.inr x) :: s ∧ K x s = some r := by
  unfold qX at h; split at h
  · exact ⟨_, _, rfl, h⟩
  · cases h
theorem qV_e {st : List am_V} {K : am_V → List am_V → cR} {r : am_Sh × cU} (h : qV st K = some r) : ∃ x s, st = x :: s ∧ K x s = some r := by
  unfold qV at h; split at h
  · exact ⟨_, _, rfl, h⟩
  · cases h
theorem qC_e {sh : am_Sh} {a : Nat} {K : am_S → cR} {r : am_Sh × cU} (h : qC sh a K = some r) : ∃ q, sh[a]? = some q ∧ K q = some r := by
  unfold qC at h; split at h
  · exact ⟨_, by assumption, h⟩
  · cases h
theorem qF_e {x : Option Nat} {K : Nat → cR} {r : am_Sh × cU} (h : qF x K = some r) : ∃ q, x = some q ∧ K q = some r := by
  unfold qF at h; split at h
  · exact ⟨_, rfl, h⟩
  · cases h
theorem kI_e {lv : am_Lv} {n : Nat} {K : Int → cR} {r : am_Sh × cU} (h : kI lv n K = some r) : ∃ x, lv[n]? = some (some (.inl x)) ∧ K x = some r := by
  unfold kI at h; split at h
  · exact ⟨_, by assumption, h⟩
  · cases h
theorem kX_e {lv : am_Lv} {n : Nat} {K : Option Nat → cR} {r : am_Sh × cU} (h : kX lv n K = some r) : ∃ x, lv[n]? = some (some (.inr (.inr x))) ∧ K x = some r := by
  unfold kX at h; split at h
  · exact ⟨_, by assumption, h⟩
  · cases h
theorem qA_e {n : Nat} {st : List am_V} {K : List am_V → List am_V → cR} {r : am_Sh × cU} (h : qA n st K = some r) : ∃ q, am_pop n st [] = some q ∧ K q.1 q.2 = some r := by
  unfold qA at h; split at h
  · exact ⟨_, by assumption, h⟩
  · cases h
theorem qf_s {c : Prop} [Decidable c] {a : cR} {r : am_Sh × cU} (h : (if c then a else none) = some r) : c ∧ a = some r := by
  split at h
  · exact ⟨by assumption, h⟩
  · cases h
noncomputable def cB (c : Jvm.ClassFile.Cond) (x y : Int) : Bool := match c with
  | .eq => decide (x = y)
  | .ne => decide (x ≠ y)
  | .lt => decide (x < y)
  | .ge => decide (y ≤ x)
  | .gt => decide (y < x)
  | .le => decide (x ≤ y)
theorem cB_e {c : Jvm.ClassFile.Cond} {x y : Int} : cB c x y = true ↔ am_cnd c x y := by
  cases c <;> simp [cB, am_cnd]
noncomputable def cW (F : Nat → List am_V → am_Sh → cU → cR) (i : Instr) (f : List Nat) (lv : am_Lv) (st : List am_V) (sh : am_Sh) (U : cU) (N : cK) (J : Nat → cK) : cR :=
  match i with
  | .iconst n => N lv (.inl n :: st) sh U
  | .bipush n => N lv (.inl n :: st) sh U
  | .sipush n => N lv (.inl n :: st) sh U
  | .lconst n => N lv (.inr (.inl ((n : Nat) : Int)) :: st) sh U
  | .iload n => kI lv n fun x => N lv (.inl x :: st) sh U
  | .iload_n n => kI lv n fun x => N lv (.inl x :: st) sh U
  | .aload n => kX lv n fun x => N lv (.inr (.inr x) :: st) sh U
  | .aload_n n => kX lv n fun x => N lv (.inr (.inr x) :: st) sh U
  | .istore n => qI st fun x s => N (am_set lv n (.inl x)) s sh U
  | .istore_n n => qI st fun x s => N (am_set lv n (.inl x)) s sh U
  | .astore n => qX st fun x s => N (am_set lv n (.inr (.inr x))) s sh U
  | .astore_n n => qX st fun x s => N (am_set lv n (.inr (.inr x))) s sh U
  | .iinc n z => kI lv n fun x => N (am_set lv n (.inl (x + z))) st sh U
  | .iadd => qI st fun y s => qI s fun x s => N lv (.inl (x + y) :: s) sh U
  | .imul => qI st fun y s => qI s fun x s => N lv (.inl (x * y) :: s) sh U
  | .dup => qV st fun x s => if am_cat x = 1 then N lv (x :: x :: s) sh U else none
  | .getfield _ => (match f with
    | [ci, k, fk] => qR st fun a s => qC sh a fun q => if q.1 = ci ∧ k < q.2.1 then (if fk = 2 then qF (q.2.2.getD k none) fun r => N lv (.inr (.inr (some r)) :: s) sh U else if fk = 1 then none else N lv (.inl (cg U a k) :: s) sh U) else none
    | _ => none)
  | .putfield _ => (match f with
    | [ci, k, fk, _] => if fk = 2 then (qR st fun v s => qR s fun a s => qC sh a fun q => if q.1 = ci ∧ k < q.2.1 ∧ k < q.2.2.length then N lv s (sh.set a (q.1, q.2.1, q.2.2.set k (some v))) U else none)
      else if fk = 1 then (qL st fun x s => qR s fun a s => qC sh a fun q => if q.1 = ci ∧ k < q.2.1 then N lv s sh ((a, some (k, x)) :: U) else none)
      else if fk = 3 then none
      else (qI st fun x s => qR s fun a s => qC sh a fun q => if q.1 = ci ∧ k < q.2.1 then N lv s sh ((a, some (k, x)) :: U) else none)
    | _ => none)
  | .iastore => qI st fun x s => qI s fun i s => qR s fun a s => qC sh a fun q => if q.1 = 10 ∧ 0 ≤ wI i ∧ wI i < q.2.1 then N lv s sh ((a, some ((wI i).toNat, x)) :: U) else none
  | .aastore => qR st fun v s => qI s fun i s => qR s fun a s => qC sh a fun q => qC sh v fun qv => if q.1 = 12 ∧ (0 ≤ wI i ∧ wI i < q.2.1) ∧ (wI i).toNat < q.2.2.length ∧ qv.1 = 1 then N lv s (sh.set a (12, q.2.1, q.2.2.set (wI i).toNat (some v))) U else none
  | .arraylength => qR st fun a s => qC sh a fun q => if q.1 = 10 then N lv (.inl (q.2.1 : Int) :: s) sh U else none
  | .new _ => (match f with
    | [ci, n] => if ci < 10 then N lv (.inr (.inr (some sh.length)) :: st) (sh ++ [(ci, n, List.replicate n none)]) ((sh.length, none) :: U) else none
    | _ => none)
  | .newarray _ => (match f with
    | [kd] => qI st fun n s => if 0 ≤ wI n ∧ (wI n).toNat * 8 ≤ 536870912 then N lv (.inr (.inr (some sh.length)) :: s) (sh ++ [(kd, (wI n).toNat, [])]) ((sh.length, none) :: U) else none
    | _ => none)
  | .anewarray _ => qI st fun n s => if 0 ≤ wI n ∧ (wI n).toNat * 8 ≤ 536870912 then N lv (.inr (.inr (some sh.length)) :: s) (sh ++ [(12, (wI n).toNat, List.replicate (wI n).toNat none)]) ((sh.length, none) :: U) else none
  | .invokestatic _ => (match f with
    | [k, n, _, _] => qA n st fun as r => if am_cats r ≤ 8 then (F k as sh U).bind fun z => if z.1 = sh then N lv r sh z.2 else none else none
    | [z, _] => if z = 0 then (qI st fun y s => qI s fun x s => if am_cats s ≤ 8 then N lv (.inl (if wI x < wI y then y else x) :: s) sh U else none) else none
    | _ => none)
  | .invokespecial _ => (match f with
    | [k, n] => qA n st fun as r => qR r fun a r => if am_cats r ≤ 8 then (F k (.inr (.inr (some a)) :: as) sh U).bind fun z => N lv r z.1 z.2 else none
    | [_] => qR st fun _ s => if am_cats s ≤ 8 then N lv s sh U else none
    | _ => none)
  | .goto _ => (match f with
    | [t] => J t lv st sh U
    | _ => none)
  | .if_icmp c _ => (match f with
    | [t, e] => qI st fun y s => qI s fun x s => if cB c (wI x) (wI y) = true then J t lv s sh U else J e lv s sh U
    | _ => none)
  | .return_ => (match st with
    | [] => some (sh, U)
    | _ => none)
  | _ => none
noncomputable def cMo (sh sh' : am_Sh) : Prop := sh.length ≤ sh'.length ∧ am_sl sh ≤ am_sl sh'
theorem cMo.rf (sh : am_Sh) : cMo sh sh := ⟨Nat.le_refl _, Nat.le_refl _⟩
theorem cMo.tr {a b c : am_Sh} (h : cMo a b) (h2 : cMo b c) : cMo a c := ⟨Nat.le_trans h.1 h2.1, Nat.le_trans h.2 h2.2⟩
theorem am_sl_set {n : Nat} {k : Nat} {rs : List (Option Nat)} : ∀ {sh : am_Sh} {a : Nat} {q : am_S}, sh[a]? = some q → q.2.1 = n → am_sl (sh.set a (k, n, rs)) = am_sl sh
  | [], a, q, h, _ => by simp at h
  | p :: sh, 0, q, h, e => by
    simp at h; subst h
    simp [am_sl, e]
  | p :: sh, a + 1, q, h, e => by
    have := am_sl_set (k := k) (rs := rs) (sh := sh) (a := a) (q := q) (by simpa using h) e
    simp [am_sl] at this ⊢
    omega
theorem cMo_set {sh sh' : am_Sh} {a k : Nat} {q : am_S} {rs : List (Option Nat)} (h : sh[a]? = some q) (m : cMo (sh.set a (k, q.2.1, rs)) sh') : cMo sh sh' := by
  obtain ⟨m1, m2⟩ := m
  rw [am_sl_set h rfl] at m2
  rw [List.length_set] at m1
  exact ⟨m1, m2⟩
theorem cMo_push {sh sh' : am_Sh} {q : am_S} (m : cMo (sh ++ [q]) sh') : sh.length + 1 ≤ sh'.length ∧ am_sl sh + q.2.1 ≤ am_sl sh' := by
  obtain ⟨m1, m2⟩ := m
  rw [am_sl_push] at m2
  rw [List.length_append] at m1
  exact ⟨m1, m2⟩
theorem cMo_of {sh sh' : am_Sh} {n : Nat} (m : sh.length + 1 ≤ sh'.length ∧ am_sl sh + n ≤ am_sl sh') : cMo sh sh' := ⟨by omega, by omega⟩
set_option maxHeartbeats 1000000 in
theorem cW_s {F : Nat → List am_V → am_Sh → cU → cR} {i : Instr} {f : List Nat} {lv : am_Lv} {st : List am_V} {sh : am_Sh} {U : cU} {N : cK} {J : Nat → cK} {N' : am_N} {J' : Nat → am_N} {r : am_Sh × cU}
    (hF : ∀ k as sh U z, F k as sh U = some z → am_Calls k as sh (cm U) none z.1 (cm z.2) ∧ cMo sh z.1)
    (hN : ∀ lv st sh U, N lv st sh U = some r → N' lv st sh (cm U) ∧ cMo sh r.1)
    (hJ : ∀ t lv st sh U, J t lv st sh U = some r → J' t lv st sh (cm U) ∧ cMo sh r.1)
    (h : cW F i f lv st sh U N J = some r) : am_stp none (r.1.length, am_sl r.1) i f lv st sh (cm U) N' J' (fun v1 s1 M1 => v1 = none ∧ s1 = r.1 ∧ M1 = cm r.2) ∧ cMo sh r.1 := by
  cases i <;> simp only [cW] at h <;> (try (cases h; done)) <;> simp only [am_stp]
  case iconst n => exact hN _ _ _ _ h
  case bipush n => exact hN _ _ _ _ h
  case sipush n => exact hN _ _ _ _ h
  case lconst n => exact hN _ _ _ _ h
  case iload n => replace h := kI_e h; obtain ⟨x, h1, h⟩ := h; simp only [gI, h1]; exact hN _ _ _ _ h
  case iload_n n => replace h := kI_e h; obtain ⟨x, h1, h⟩ := h; simp only [gI, h1]; exact hN _ _ _ _ h
  case aload n => replace h := kX_e h; obtain ⟨x, h1, h⟩ := h; simp only [gX, h1]; exact hN _ _ _ _ h
  case aload_n n => replace h := kX_e h; obtain ⟨x, h1, h⟩ := h; simp only [gX, h1]; exact hN _ _ _ _ h
  case istore n => replace h := qI_e h; obtain ⟨x, s, rfl, h⟩ := h; exact hN _ _ _ _ h
  case istore_n n => replace h := qI_e h; obtain ⟨x, s, rfl, h⟩ := h; exact hN _ _ _ _ h
  case astore n => replace h := qX_e h; obtain ⟨x, s, rfl, h⟩ := h; exact hN _ _ _ _ h
  case astore_n n => replace h := qX_e h; obtain ⟨x, s, rfl, h⟩ := h; exact hN _ _ _ _ h
  case iinc n z => replace h := kI_e h; obtain ⟨x, h1, h⟩ := h; simp only [gI, h1]; exact hN _ _ _ _ h
  case iadd => replace h := qI_e h; obtain ⟨y, s, rfl, h⟩ := h; replace h := qI_e h; obtain ⟨x, s, rfl, h⟩ := h; exact hN _ _ _ _ h
  case imul => replace h := qI_e h; obtain ⟨y, s, rfl, h⟩ := h; replace h := qI_e h; obtain ⟨x, s, rfl, h⟩ := h; exact hN _ _ _ _ h
  case dup =>
    replace h := qV_e h; obtain ⟨x, s, rfl, h⟩ := h
    replace h := qf_s h; obtain ⟨h1, h⟩ := h
    have := hN _ _ _ _ h
    exact ⟨⟨h1, this.1⟩, this.2⟩
  case getfield j =>
    split at h
    · replace h := qR_e h; obtain ⟨a, s, rfl, h⟩ := h
      replace h := qC_e h; obtain ⟨q, h1, h⟩ := h
      replace h := qf_s h; obtain ⟨h2, h⟩ := h
      simp only [pR, pC, h1]
      split at h
      · rename_i e
        replace h := qF_e h; obtain ⟨z, h3, h⟩ := h
        have := hN _ _ _ _ h
        rw [if_pos e]
        simp only [pF, h3]
        exact ⟨⟨h2.1, h2.2, this.1⟩, this.2⟩
      · rename_i e
        split at h
        · cases h
        · rename_i e1
          rw [← cg_e] at h
          have := hN _ _ _ _ h
          rw [if_neg e, if_neg e1]
          exact ⟨⟨h2.1, h2.2, this.1⟩, this.2⟩
    · cases h
  case putfield j =>
    split at h
    · dsimp only
      split at h
      · rename_i e
        replace h := qR_e h; obtain ⟨v, s, rfl, h⟩ := h
        replace h := qR_e h; obtain ⟨a, s, rfl, h⟩ := h
        replace h := qC_e h; obtain ⟨q, h1, h⟩ := h
        replace h := qf_s h; obtain ⟨h2, h⟩ := h
        have := hN _ _ _ _ h
        rw [if_pos e]
        simp only [pR, pC, h1]
        exact ⟨⟨h2.1, h2.2.1, h2.2.2, this.1⟩, cMo_set h1 this.2⟩
      · rename_i e
        rw [if_neg e]
        split at h
        · rename_i e1
          replace h := qL_e h; obtain ⟨v, s, rfl, h⟩ := h
          replace h := qR_e h; obtain ⟨a, s, rfl, h⟩ := h
          replace h := qC_e h; obtain ⟨q, h1, h⟩ := h
          replace h := qf_s h; obtain ⟨h2, h⟩ := h
          have := hN _ _ _ _ h
          rw [if_pos e1]
          simp only [pL, pR, pC, h1]
          exact ⟨⟨h2.1, h2.2, this.1⟩, this.2⟩
        · rename_i e1
          rw [if_neg e1]
          split at h
          · cases h
          · rename_i e2
            replace h := qI_e h; obtain ⟨v, s, rfl, h⟩ := h
            replace h := qR_e h; obtain ⟨a, s, rfl, h⟩ := h
            replace h := qC_e h; obtain ⟨q, h1, h⟩ := h
            replace h := qf_s h; obtain ⟨h2, h⟩ := h
            have := hN _ _ _ _ h
            rw [if_neg e2]
            simp only [pI, pR, pC, h1]
            exact ⟨⟨h2.1, h2.2, this.1⟩, this.2⟩
    · cases h
  case iastore =>
    replace h := qI_e h; obtain ⟨x, s, rfl, h⟩ := h
    replace h := qI_e h; obtain ⟨i, s, rfl, h⟩ := h
    replace h := qR_e h; obtain ⟨a, s, rfl, h⟩ := h
    replace h := qC_e h; obtain ⟨q, h1, h⟩ := h
    replace h := qf_s h; obtain ⟨h2, h⟩ := h
    have := hN _ _ _ _ h
    simp only [pI, pR, pC, h1]
    exact ⟨⟨h2.1, h2.2, this.1⟩, this.2⟩
  case aastore =>
    replace h := qR_e h; obtain ⟨v, s, rfl, h⟩ := h
    replace h := qI_e h; obtain ⟨i, s, rfl, h⟩ := h
    replace h := qR_e h; obtain ⟨a, s, rfl, h⟩ := h
    replace h := qC_e h; obtain ⟨q, h1, h⟩ := h
    replace h := qC_e h; obtain ⟨qv, h3, h⟩ := h
    replace h := qf_s h; obtain ⟨h2, h⟩ := h
    have := hN _ _ _ _ h
    simp only [pI, pR, pC, h1, h3]
    exact ⟨⟨h2.1, h2.2.1, h2.2.2.1, h2.2.2.2, this.1⟩, cMo_set h1 this.2⟩
  case arraylength =>
    replace h := qR_e h; obtain ⟨a, s, rfl, h⟩ := h
    replace h := qC_e h; obtain ⟨q, h1, h⟩ := h
    replace h := qf_s h; obtain ⟨h2, h⟩ := h
    have := hN _ _ _ _ h
    simp only [pX, pC, h1]
    exact ⟨Or.inl ⟨h2, this.1⟩, this.2⟩
  case new j =>
    split at h
    · replace h := qf_s h; obtain ⟨h2, h⟩ := h
      have := hN _ _ _ _ h
      have m := cMo_push this.2
      exact ⟨⟨h2, m.1, m.2, this.1⟩, cMo_of m⟩
    · cases h
  case newarray t =>
    split at h
    · replace h := qI_e h; obtain ⟨n, s, rfl, h⟩ := h
      replace h := qf_s h; obtain ⟨h2, h⟩ := h
      have := hN _ _ _ _ h
      have m := cMo_push this.2
      exact ⟨⟨h2.1, h2.2, m.1, m.2, this.1⟩, cMo_of m⟩
    · cases h
  case anewarray j =>
    replace h := qI_e h; obtain ⟨n, s, rfl, h⟩ := h
    replace h := qf_s h; obtain ⟨h2, h⟩ := h
    have := hN _ _ _ _ h
    have m := cMo_push this.2
    exact ⟨⟨h2.1, h2.2, m.1, m.2, this.1⟩, cMo_of m⟩
  case invokestatic j =>
    split at h
    · replace h := qA_e h; obtain ⟨q, h1, h⟩ := h
      replace h := qf_s h; obtain ⟨h2, h⟩ := h
      replace h := Option.bind_eq_some_iff.mp h; obtain ⟨z, h3, h⟩ := h
      replace h := qf_s h; obtain ⟨h4, h⟩ := h
      have := hN _ _ _ _ h
      have c := (hF _ _ _ _ _ h3).1
      rw [h4] at c
      simp only [pA, h1]
      exact ⟨⟨h2, none, _, c, this.1⟩, this.2⟩
    · replace h := qf_s h; obtain ⟨h1, h⟩ := h
      replace h := qI_e h; obtain ⟨y, s, rfl, h⟩ := h
      replace h := qI_e h; obtain ⟨x, s, rfl, h⟩ := h
      replace h := qf_s h; obtain ⟨h2, h⟩ := h
      have := hN _ _ _ _ h
      rw [h1]
      exact ⟨⟨h2, this.1⟩, this.2⟩
    · cases h
  case invokespecial j =>
    split at h
    · replace h := qA_e h; obtain ⟨q, h1, h⟩ := h
      replace h := qR_e h; obtain ⟨a, s, e, h⟩ := h
      replace h := qf_s h; obtain ⟨h2, h⟩ := h
      replace h := Option.bind_eq_some_iff.mp h; obtain ⟨z, h3, h⟩ := h
      have := hN _ _ _ _ h
      have c := hF _ _ _ _ _ h3
      simp only [pA, h1, pR, e]
      exact ⟨⟨h2, _, _, c.1, ⟨c.2.1, this.2.1, c.2.2, this.2.2⟩, this.1⟩, c.2.tr this.2⟩
    · replace h := qR_e h; obtain ⟨a, s, rfl, h⟩ := h
      replace h := qf_s h; obtain ⟨h2, h⟩ := h
      have := hN _ _ _ _ h
      exact ⟨⟨h2, this.1⟩, this.2⟩
    · cases h
  case goto off =>
    split at h
    · exact hJ _ _ _ _ _ h
    · cases h
  case if_icmp c off =>
    split at h
    · replace h := qI_e h; obtain ⟨y, s, rfl, h⟩ := h
      replace h := qI_e h; obtain ⟨x, s, rfl, h⟩ := h
      simp only [pI]
      split at h
      · rename_i e
        have := hJ _ _ _ _ _ h
        exact ⟨⟨fun _ => this.1, fun q => absurd (cB_e.mp e) q⟩, this.2⟩
      · rename_i e
        have := hJ _ _ _ _ _ h
        exact ⟨⟨fun q => absurd (cB_e.mpr q) e, fun _ => this.1⟩, this.2⟩
    · cases h
  case return_ =>
    split at h
    · have e := Option.some.inj h
      subst e
      exact ⟨by simp, cMo.rf _⟩
    · cases h
noncomputable def cBk (F : Nat → List am_V → am_Sh → cU → cR) (J : Nat → cK) (fall : Option Nat) : List am_E → cK
  | [], lv, st, sh, U => (match fall with
    | some t => J t lv st sh U
    | none => none)
  | e :: es, lv, st, sh, U => cW F e.1 e.2 lv st sh U (cBk F J fall es) J
noncomputable def cRun (F : Nat → List am_V → am_Sh → cU → cR) (bs : List am_B) : Nat → Nat → cK
  | 0, _, _, _, _, _ => none
  | n + 1, b, lv, st, sh, U => (match bs[b]? with
    | none => none
    | some q => cBk F (fun t => cRun F bs n (if 1000 ≤ t then t - 1000 else t)) q.2.2 q.2.1 lv st sh U)
theorem cBk_s {F : Nat → List am_V → am_Sh → cU → cR} {k : Nat} {tp : Nat → Nat} {J : Nat → cK} {fall : Option Nat} {r : am_Sh × cU}
    (hF : ∀ k as sh U z, F k as sh U = some z → am_Calls k as sh (cm U) none z.1 (cm z.2) ∧ cMo sh z.1)
    (hJ : ∀ t lv st sh U, J t lv st sh U = some r → am_At none k (tp t) lv st sh (cm U) none r.1 (cm r.2) ∧ cMo sh r.1) :
    ∀ (es : List am_E) (cs : List (Nat × List Nat)) (pc : Nat) (lv : am_Lv) (st : List am_V) (sh : am_Sh) (U : cU), am_ckB k tp pc es cs fall = true → cBk F J fall es lv st sh U = some r → am_At none k pc lv st sh (cm U) none r.1 (cm r.2) ∧ cMo sh r.1
  | [], [], pc, lv, st, sh, U, hc, h => by
    cases fall with
    | none => cases h
    | some t =>
      simp only [am_ckB, decide_eq_true_eq] at hc
      rw [← hc]
      exact hJ t lv st sh U h
  | e :: es, c :: cs, pc, lv, st, sh, U, hc, h => by
    simp only [am_ckB, Bool.and_eq_true, decide_eq_true_eq] at hc
    have := cW_s (N' := fun lv st sh M => am_At none k (pc + c.1) lv st sh M none r.1 (cm r.2)) (J' := fun t lv st sh M => am_At none k (tp t) lv st sh M none r.1 (cm r.2)) hF (fun lv st sh U hn => cBk_s hF hJ es cs (pc + c.1) lv st sh U hc.2 hn) hJ h
    exact ⟨am_step hc.1.1 hc.1.2 (fun _ _ _ _ h => h) (fun _ _ _ _ _ h => h) this.1, this.2⟩
  | [], _ :: _, pc, lv, st, sh, U, hc, h => by cases fall <;> simp [am_ckB] at hc
  | _ :: _, [], pc, lv, st, sh, U, hc, h => by cases fall <;> simp [am_ckB] at hc
theorem cRun_s {F : Nat → List am_V → am_Sh → cU → cR} {k : Nat} {bs : List am_B} {cs : List (List (Nat × List Nat))} (hck : am_ck k bs cs = true) {r : am_Sh × cU}
    (hF : ∀ k as sh U z, F k as sh U = some z → am_Calls k as sh (cm U) none z.1 (cm z.2) ∧ cMo sh z.1) :
    ∀ (n b : Nat) (lv : am_Lv) (st : List am_V) (sh : am_Sh) (U : cU), cRun F bs n b lv st sh U = some r → am_R none k bs b lv st sh (cm U) none r.1 (cm r.2) ∧ cMo sh r.1
  | 0, b, lv, st, sh, U, h => by cases h
  | n + 1, b, lv, st, sh, U, h => by
    unfold cRun at h
    split at h
    · cases h
    · rename_i q hq
      obtain ⟨c, hc⟩ := am_ckL_e bs cs hck b q hq
      have e1 : am_pc bs b = q.1 := by simp [am_pc, List.getD_eq_getElem?_getD, hq]
      unfold am_R
      rw [e1]
      exact cBk_s hF (fun t lv st sh U hj => cRun_s hck hF n _ lv st sh U hj) _ c _ lv st sh U hc h
/-- a table of makings: number, locals, blocks -/
noncomputable def cOk (q : Nat × Nat × List am_B) : Prop := plainName (am_y q.1).cls = true ∧ am_ml q.1 = q.2.1 ∧ am_pc q.2.2 0 = 0 ∧ ∃ cs, am_ck q.1 q.2.2 cs = true
noncomputable def cCall (T : List (Nat × Nat × List am_B)) : Nat → Nat → List am_V → am_Sh → cU → cR
  | 0, _, _, _, _ => none
  | n + 1, k, as, sh, U => (match T.find? (fun q => q.1 == k) with
    | none => none
    | some q => if (am_argl as).length ≤ q.2.1 then cRun (cCall T n) q.2.2 300 0 (am_ent q.2.1 as) [] sh U else none)
theorem cCall_s {T : List (Nat × Nat × List am_B)} (hT : ∀ q ∈ T, cOk q) : ∀ (n k : Nat) (as : List am_V) (sh : am_Sh) (U : cU) (z : am_Sh × cU), cCall T n k as sh U = some z → am_Calls k as sh (cm U) none z.1 (cm z.2) ∧ cMo sh z.1
  | 0, k, as, sh, U, z, h => by cases h
  | n + 1, k, as, sh, U, z, h => by
    unfold cCall at h
    split at h
    · cases h
    · rename_i q hq
      obtain ⟨hl, h⟩ := qf_s h
      have hk : q.1 = k := by simpa using List.find?_some hq
      obtain ⟨h1, h2, h3, cs, h4⟩ := hT q (List.mem_of_find?_eq_some hq)
      rw [hk] at h1 h2 h4
      obtain ⟨g1, g2⟩ := cRun_s h4 (cCall_s hT n) _ _ _ _ _ _ h
      exact ⟨am_enter h1 h2 h3 hl g2 g1, g2⟩
/-- what lies beyond all that was written -/
theorem cg_out {a n : Nat} : ∀ (u : cU), u.all (fun e => !(e.1 == a) || (match e.2 with
    | none => true
    | some q => decide (q.1 < n))) = true → ∀ j, n ≤ j → cg u a j = 0
  | [], _, _, _ => rfl
  | (b, none) :: u, h, j, hj => by
    simp only [List.all_cons, Bool.and_eq_true] at h
    simp only [cg]
    split
    · rfl
    · exact cg_out u h.2 j hj
  | (b, some q) :: u, h, j, hj => by
    simp only [List.all_cons, Bool.and_eq_true, Bool.or_eq_true, Bool.not_eq_true', beq_eq_false_iff_ne, ne_eq, decide_eq_true_eq] at h
    simp only [cg]
    rw [if_neg (fun e => by rcases h.1 with h1 | h1 <;> omega)]
    exact cg_out u h.2 j hj
noncomputable def cEq (r : cR) (sh : am_Sh) (U : cU) : Bool := match r with
  | some z => decide (z.1 = sh) && decide (z.2 = U)
  | none => false
theorem cEq_e {r : cR} {sh : am_Sh} {U : cU} (h : cEq r sh U = true) : r = some (sh, U) := by
  unfold cEq at h
  split at h
  · simp only [Bool.and_eq_true, decide_eq_true_eq] at h
    rw [← h.1, ← h.2]
  · cases h
/-- a row of numbers, as a function -/
theorem cm_row {u : cU} {a n : Nat} {g : Nat → Int} (h1 : u.all (fun e => !(e.1 == a) || (match e.2 with
    | none => true
    | some q => decide (q.1 < n))) = true) (h2 : (List.range n).all (fun j => decide (cg u a j = g j)) = true) (h3 : ∀ j, n ≤ j → g j = 0) : cm u a = g := by
  funext j
  rw [cg_e]
  by_cases hj : j < n
  · exact of_decide_eq_true (List.all_eq_true.mp h2 j (List.mem_range.mpr hj))
  · rw [cg_out u h1 j (by omega), h3 j (by omega)]
end
section
/-! The two makings of the law, run. -/
noncomputable def mkT : List (Nat × Nat × List am_B) := [(0, 3, bk_X0_init), (11, 1, bk_X1_init), (27, 1, bk_X2_init), (44, 3, bk_X3_init), (50, 3, bk_X4_init), (72, 2, bk_X5_init), (80, 4, bk_X6_init), (95, 3, bk_X7_init), (105, 2, bk_X8_init), (167, 2, bk_X9_init), (277, 4, bk_J7_fill_53178)]
theorem mkT_ok : ∀ q ∈ mkT, cOk q := List.forall_mem_cons.mpr ⟨⟨pn_X0_init, ml_X0_init, rfl, _, ok_X0_init⟩, List.forall_mem_cons.mpr ⟨⟨pn_X1_init, ml_X1_init, rfl, _, ok_X1_init⟩, List.forall_mem_cons.mpr ⟨⟨pn_X2_init, ml_X2_init, rfl, _, ok_X2_init⟩, List.forall_mem_cons.mpr ⟨⟨pn_X3_init, ml_X3_init, rfl, _, ok_X3_init⟩, List.forall_mem_cons.mpr ⟨⟨pn_X4_init, ml_X4_init, rfl, _, ok_X4_init⟩, List.forall_mem_cons.mpr ⟨⟨pn_X5_init, ml_X5_init, rfl, _, ok_X5_init⟩, List.forall_mem_cons.mpr ⟨⟨pn_X6_init, ml_X6_init, rfl, _, ok_X6_init⟩, List.forall_mem_cons.mpr ⟨⟨pn_X7_init, ml_X7_init, rfl, _, ok_X7_init⟩, List.forall_mem_cons.mpr ⟨⟨pn_X8_init, ml_X8_init, rfl, _, ok_X8_init⟩, List.forall_mem_cons.mpr ⟨⟨pn_X9_init, ml_X9_init, rfl, _, ok_X9_init⟩, List.forall_mem_cons.mpr ⟨⟨pn_J7_fill_53178, ml_J7_fill_53178, rfl, _, ok_J7_fill_53178⟩, fun _ h => absurd h List.not_mem_nil⟩⟩⟩⟩⟩⟩⟩⟩⟩⟩⟩
noncomputable def SH1 : am_Sh := [(8, 16, [some 1, some 4, some 7, some 11, some 14, some 19, some 35, some 36, some 41, some 44, some 47, some 52, none, none, none, none]),
  (6, 5, [none, none, none, some 2, some 3]),
  (10, 6, []),
  (10, 240, []),
  (6, 5, [none, none, none, some 5, some 6]),
  (10, 4, []),
  (10, 240, []),
  (5, 7, [some 8, none, none, none, some 4, none, none]),
  (2, 3, [none, some 9, some 10]),
  (10, 12, []),
  (10, 12, []),
  (2, 3, [none, some 12, some 13]),
  (10, 12, []),
  (10, 12, []),
  (1, 8, [none, none, none, none, some 15, some 16, some 17, some 18]),
  (10, 40, []),
  (10, 40, []),
  (10, 41, []),
  (10, 96, []),
  (12, 3, [some 20, some 25, some 30]),
  (1, 8, [none, none, none, none, some 21, some 22, some 23, some 24]),
  (10, 40, []),
  (10, 40, []),
  (10, 41, []),
  (10, 96, []),
  (1, 8, [none, none, none, none, some 26, some 27, some 28, some 29]),
  (10, 40, []),
  (10, 40, []),
  (10, 41, []),
  (10, 96, []),
  (1, 8, [none, none, none, none, some 31, some 32, some 33, some 34]),
  (10, 40, []),
  (10, 40, []),
  (10, 41, []),
  (10, 96, []),
  (10, 3, []),
  (4, 7, [some 11, some 14, some 37, some 38, some 39, some 40, none]),
  (10, 13, []),
  (10, 273, []),
  (11, 13, []),
  (11, 13, []),
  (0, 4, [some 11, some 14, some 42, some 43]),
  (11, 13, []),
  (11, 13, []),
  (7, 5, [some 11, some 14, some 45, some 46, none]),
  (10, 65, []),
  (10, 65, []),
  (3, 4, [some 11, some 14, some 48, some 51]),
  (2, 3, [none, some 49, some 50]),
  (10, 12, []),
  (10, 12, []),
  (10, 41, []),
  (10, 6, [])]
noncomputable def mkU1 : cU := [(0, some (15, 1)), (52, none), (51, none), (50, none), (49, none), (48, none), (47, none), (46, none), (45, none), (44, none), (43, none), (42, none), (41, none), (40, none), (39, none), (38, none), (37, none), (36, none), (35, some (2, (-1))), (35, some (1, (-1))), (35, some (0, (-1))), (35, none), (34, none), (33, none), (32, none), (31, none), (30, none), (29, none), (28, none), (27, none), (26, none), (25, none), (24, none), (23, none), (22, none), (21, none), (20, none), (19, none), (18, none), (17, none), (16, none), (15, none), (14, none), (13, none), (12, none), (11, none), (10, none), (9, none), (8, none), (7, none), (5, some (3, (-1))), (5, some (2, (-1))), (5, some (1, (-1))), (5, some (0, (-1))), (6, none), (5, none), (4, some (2, 32)), (4, some (1, 60)), (4, some (0, 4)), (4, none), (2, some (5, (-1))), (2, some (4, (-1))), (2, some (3, (-1))), (2, some (2, (-1))), (2, some (1, (-1))), (2, some (0, (-1))), (3, none), (2, none), (1, some (2, 0)), (1, some (1, 40)), (1, some (0, 6)), (1, none), (0, none)]
noncomputable def mkU0 : cU := [(54, some (363, (-1))), (54, some (242, (-1))), (54, some (121, (-1))), (68, none), (67, none), (66, none), (65, none), (64, none), (63, none), (62, none), (61, none), (53, some (10, 1)), (60, none), (59, some (3, (-1))), (59, some (2, (-1))), (59, some (1, (-1))), (59, some (0, (-1))), (59, none), (58, none), (57, some (5, (-1))), (57, some (4, (-1))), (57, some (3, (-1))), (57, some (2, (-1))), (57, some (1, (-1))), (57, some (0, (-1))), (57, none), (56, none), (55, none), (54, none), (53, none), (0, some (15, 1)), (52, none), (51, none), (50, none), (49, none), (48, none), (47, none), (46, none), (45, none), (44, none), (43, none), (42, none), (41, none), (40, none), (39, none), (38, none), (37, none), (36, none), (35, some (2, (-1))), (35, some (1, (-1))), (35, some (0, (-1))), (35, none), (34, none), (33, none), (32, none), (31, none), (30, none), (29, none), (28, none), (27, none), (26, none), (25, none), (24, none), (23, none), (22, none), (21, none), (20, none), (19, none), (18, none), (17, none), (16, none), (15, none), (14, none), (13, none), (12, none), (11, none), (10, none), (9, none), (8, none), (7, none), (5, some (3, (-1))), (5, some (2, (-1))), (5, some (1, (-1))), (5, some (0, (-1))), (6, none), (5, none), (4, some (2, 32)), (4, some (1, 60)), (4, some (0, 4)), (4, none), (2, some (5, (-1))), (2, some (4, (-1))), (2, some (3, (-1))), (2, some (2, (-1))), (2, some (1, (-1))), (2, some (0, (-1))), (3, none), (2, none), (1, some (2, 0)), (1, some (1, 40)), (1, some (0, 6)), (1, none), (0, none)]
theorem mk_c1 : cCall mkT 6 105 [.inr (.inr (some 0))] [(8, 16, List.replicate 16 none)] [(0, none)] = some (SH1, mkU1) := cEq_e (by decide +kernel)
theorem mk_c0 : cCall mkT 6 167 [.inr (.inr (some 53))] (SH1 ++ [(9, 31, List.replicate 31 none)]) ((53, none) :: mkU1) = some (SH, mkU0) := cEq_e (by decide +kernel)
theorem mk_1 : am_Calls 105 [.inr (.inr (some 0))] [(8, 16, List.replicate 16 none)] (cm [(0, none)]) none SH1 (cm mkU1) := (cCall_s mkT_ok 6 _ _ _ _ (SH1, mkU1) mk_c1).1
theorem mk_0 : am_Calls 167 [.inr (.inr (some 53))] (SH1 ++ [(9, 31, List.replicate 31 none)]) (cm ((53, none) :: mkU1)) none SH (cm mkU0) := (cCall_s mkT_ok 6 _ _ _ _ (SH, mkU0) mk_c0).1
noncomputable def M0 : am_M := cm mkU0
end
