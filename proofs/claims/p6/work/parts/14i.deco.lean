noncomputable def F_X9_polite_53 : Nat → List am_V → am_M → am_Rs := fun k as M => if k = 168 then (match as with
  | [.inr (.inl a0), .inr (.inl a2), .inr (.inl a4)] => X_X9_in a0 a2 a4 M
  | _ => none) else if k = 172 then (match as with
  | [.inl a0] => X_X9_isRow a0 M
  | _ => none) else if k = 217 then (match as with
  | [.inr (.inr (some 53)), .inl a1] => X_X9_isPlace_53 a1 M
  | _ => none) else if k = 229 then (match as with
  | [.inr (.inr (some 53)), .inl a1, .inl a2] => X_X9_layValues_53 a1 a2 M
  | _ => none) else if k = 230 then (match as with
  | [.inr (.inr (some 53)), .inl a1, .inl a2] => X_X9_toRow_53 a1 a2 M
  | _ => none) else none
theorem fs_X9_polite_53 : am_FS SH F_X9_polite_53 := by
  intro k as M x M' h
  unfold F_X9_polite_53 at h
  split at h
  · rename_i hk; subst hk
    split at h
    · exact dc_X9_in _ _ _ _ _ _ h
    · cases h
  split at h
  · rename_i hk; subst hk
    split at h
    · exact dc_X9_isRow _ _ _ _ h
    · cases h
  split at h
  · rename_i hk; subst hk
    split at h
    · exact dc_X9_isPlace_53 _ _ _ _ h
    · cases h
  split at h
  · rename_i hk; subst hk
    split at h
    · exact dc_X9_layValues_53 _ _ _ _ _ h
    · cases h
  split at h
  · rename_i hk; subst hk
    split at h
    · exact dc_X9_toRow_53 _ _ _ _ _ h
    · cases h
  cases h
noncomputable def X_X9_polite_53 (v1 v2 v3 : Int) (M : am_M) : am_Rs :=
  (X_X9_isPlace_53 v1 M).bind fun z1 =>
  if wI z1.1 = 0 then
   some ((-1), z1.2)
  else (X_X9_in (wI v2) 0 20 z1.2).bind fun z2 =>
  if wI z2.1 = 0 then
   some ((-1), z2.2)
  else (X_X9_isRow v3 z2.2).bind fun z3 =>
  if wI z3.1 = 0 then
   some ((-1), z3.2)
  else if wI (z3.2 53 1) = 0 then
   some ((-4), z3.2)
  else (X_X9_layValues_53 v2 v1 (am_up z3.2 53 22 0)).bind fun z4 =>
  if 0 ≤ wI (z4.2 54 1) ∧ wI (z4.2 54 1) < 273 then
  if wI (z4.2 64 (wI (z4.2 54 1)).toNat) < 1048576 then
    (X_X9_toRow_53 v3 v2 z4.2).bind fun z5 =>
    some (z4.2 64 (wI (z4.2 54 1)).toNat, z5.2)
   else some ((-9), z4.2)
  else none
set_option maxRecDepth 100000 in
theorem dc_X9_polite_53 (v1 v2 v3 : Int) (M M' : am_M) (x : Int) (h : X_X9_polite_53 v1 v2 v3 M = some (x, M')) : am_Calls 235 [.inr (.inr (some 53)), .inl v1, .inl v2, .inl v3] SH M (am_rv (am_rk 235) x) SH M' :=
  vCall (F := F_X9_polite_53) (C := fun _ _ _ _ => none) (fu := 11) ok_X9_polite pn_X9_polite ml_X9_polite rfl (Nat.le_of_ble_eq_true rfl) fs_X9_polite_53 (fun _ _ _ _ h => by cases h) h
noncomputable def F_X9_ways_53 : Nat → List am_V → am_M → am_Rs := fun k as M => if k = 168 then (match as with
  | [.inr (.inl a0), .inr (.inl a2), .inr (.inl a4)] => X_X9_in a0 a2 a4 M
  | _ => none) else if k = 217 then (match as with
  | [.inr (.inr (some 53)), .inl a1] => X_X9_isPlace_53 a1 M
  | _ => none) else if k = 233 then (match as with
  | [.inr (.inr (some 53)), .inl a1, .inl a2] => X_X9_layWays_53 a1 a2 M
  | _ => none) else none
theorem fs_X9_ways_53 : am_FS SH F_X9_ways_53 := by
  intro k as M x M' h
  unfold F_X9_ways_53 at h
  split at h
  · rename_i hk; subst hk
    split at h
    · exact dc_X9_in _ _ _ _ _ _ h
    · cases h
  split at h
  · rename_i hk; subst hk
    split at h
    · exact dc_X9_isPlace_53 _ _ _ _ h
    · cases h
  split at h
  · rename_i hk; subst hk
    split at h
    · exact dc_X9_layWays_53 _ _ _ _ _ h
    · cases h
  cases h
noncomputable def X_X9_ways_53 (v1 v2 : Int) (M : am_M) : am_Rs :=
  (X_X9_isPlace_53 v1 M).bind fun z1 =>
  if wI z1.1 = 0 then
   some ((-1), z1.2)
  else (X_X9_in (wI v2) 0 20 z1.2).bind fun z2 =>
  if wI z2.1 = 0 then
   some ((-1), z2.2)
  else if wI (z2.2 53 1) = 0 then
   some ((-4), z2.2)
  else (X_X9_layWays_53 v2 v1 z2.2).bind fun z3 =>
  if 0 ≤ wI (z3.2 54 1) ∧ wI (z3.2 54 1) < 273 then
  some (1, (am_up (am_up z3.2 53 9 (z3.2 65 (wI (z3.2 54 1)).toNat)) 53 10 1))
  else none
set_option maxRecDepth 100000 in
theorem dc_X9_ways_53 (v1 v2 : Int) (M M' : am_M) (x : Int) (h : X_X9_ways_53 v1 v2 M = some (x, M')) : am_Calls 237 [.inr (.inr (some 53)), .inl v1, .inl v2] SH M (am_rv (am_rk 237) x) SH M' :=
  vCall (F := F_X9_ways_53) (C := fun _ _ _ _ => none) (fu := 8) ok_X9_ways pn_X9_ways ml_X9_ways rfl (Nat.le_of_ble_eq_true rfl) fs_X9_ways_53 (fun _ _ _ _ h => by cases h) h
noncomputable def F_X9_reach_53 : Nat → List am_V → am_M → am_Rs := fun k as M => if k = 168 then (match as with
  | [.inr (.inl a0), .inr (.inl a2), .inr (.inl a4)] => X_X9_in a0 a2 a4 M
  | _ => none) else if k = 232 then (match as with
  | [.inr (.inr (some 53)), .inl a1] => X_X9_reachIn_53 a1 M
  | _ => none) else none
theorem fs_X9_reach_53 : am_FS SH F_X9_reach_53 := by
  intro k as M x M' h
  unfold F_X9_reach_53 at h
  split at h
  · rename_i hk; subst hk
    split at h
    · exact dc_X9_in _ _ _ _ _ _ h
    · cases h
  split at h
  · rename_i hk; subst hk
    split at h
    · exact dc_X9_reachIn_53 _ _ _ _ h
    · cases h
  cases h
noncomputable def X_X9_reach_53 (v1 : Int) (M : am_M) : am_Rs :=
  (X_X9_in (wI v1) 0 20 M).bind fun z1 =>
  if wI z1.1 = 0 then
   some ((-1), z1.2)
  else if wI (z1.2 53 1) = 0 then
   some ((-4), z1.2)
  else (X_X9_reachIn_53 v1 z1.2).bind fun z2 =>
  some (z2.1, z2.2)
set_option maxRecDepth 100000 in
theorem dc_X9_reach_53 (v1 : Int) (M M' : am_M) (x : Int) (h : X_X9_reach_53 v1 M = some (x, M')) : am_Calls 238 [.inr (.inr (some 53)), .inl v1] SH M (am_rv (am_rk 238) x) SH M' :=
  vCall (F := F_X9_reach_53) (C := fun _ _ _ _ => none) (fu := 8) ok_X9_reach pn_X9_reach ml_X9_reach rfl (Nat.le_of_ble_eq_true rfl) fs_X9_reach_53 (fun _ _ _ _ h => by cases h) h
noncomputable def F_X9_least_53 : Nat → List am_V → am_M → am_Rs := fun k as M => if k = 168 then (match as with
  | [.inr (.inl a0), .inr (.inl a2), .inr (.inl a4)] => X_X9_in a0 a2 a4 M
  | _ => none) else if k = 172 then (match as with
  | [.inl a0] => X_X9_isRow a0 M
  | _ => none) else if k = 194 then (match as with
  | [.inr (.inr (some 53)), .inl a1] => X_X9_isStrip_53 a1 M
  | _ => none) else if k = 229 then (match as with
  | [.inr (.inr (some 53)), .inl a1, .inl a2] => X_X9_layValues_53 a1 a2 M
  | _ => none) else if k = 230 then (match as with
  | [.inr (.inr (some 53)), .inl a1, .inl a2] => X_X9_toRow_53 a1 a2 M
  | _ => none) else none
theorem fs_X9_least_53 : am_FS SH F_X9_least_53 := by
  intro k as M x M' h
  unfold F_X9_least_53 at h
  split at h
  · rename_i hk; subst hk
    split at h
    · exact dc_X9_in _ _ _ _ _ _ h
    · cases h
  split at h
  · rename_i hk; subst hk
    split at h
    · exact dc_X9_isRow _ _ _ _ h
    · cases h
  split at h
  · rename_i hk; subst hk
    split at h
    · exact dc_X9_isStrip_53 _ _ _ _ h
    · cases h
  split at h
  · rename_i hk; subst hk
    split at h
    · exact dc_X9_layValues_53 _ _ _ _ _ h
    · cases h
  split at h
  · rename_i hk; subst hk
    split at h
    · exact dc_X9_toRow_53 _ _ _ _ _ h
    · cases h
  cases h
noncomputable def X_X9_least_53 (v1 v2 v3 : Int) (M : am_M) : am_Rs :=
  (X_X9_isStrip_53 v1 M).bind fun z1 =>
  if wI z1.1 = 0 then
   some ((-1), z1.2)
  else (X_X9_in (wI v2) 0 20 z1.2).bind fun z2 =>
  if wI z2.1 = 0 then
   some ((-1), z2.2)
  else (X_X9_isRow v3 z2.2).bind fun z3 =>
  if wI z3.1 = 0 then
   some ((-1), z3.2)
  else (X_X9_layValues_53 v2 (-1) (am_up (am_up z3.2 53 22 1) 53 23 v1)).bind fun z4 =>
  (X_X9_toRow_53 v3 v2 z4.2).bind fun z5 =>
  if 0 ≤ wI (z5.2 54 1) ∧ wI (z5.2 54 1) < 273 then
  some (z5.2 64 (wI (z5.2 54 1)).toNat, z5.2)
  else none
set_option maxRecDepth 100000 in
theorem dc_X9_least_53 (v1 v2 v3 : Int) (M M' : am_M) (x : Int) (h : X_X9_least_53 v1 v2 v3 M = some (x, M')) : am_Calls 239 [.inr (.inr (some 53)), .inl v1, .inl v2, .inl v3] SH M (am_rv (am_rk 239) x) SH M' :=
  vCall (F := F_X9_least_53) (C := fun _ _ _ _ => none) (fu := 7) ok_X9_least pn_X9_least ml_X9_least rfl (Nat.le_of_ble_eq_true rfl) fs_X9_least_53 (fun _ _ _ _ h => by cases h) h
noncomputable def F_X9_most_53 : Nat → List am_V → am_M → am_Rs := fun k as M => if k = 168 then (match as with
  | [.inr (.inl a0), .inr (.inl a2), .inr (.inl a4)] => X_X9_in a0 a2 a4 M
  | _ => none) else if k = 229 then (match as with
  | [.inr (.inr (some 53)), .inl a1, .inl a2] => X_X9_layValues_53 a1 a2 M
  | _ => none) else none
theorem fs_X9_most_53 : am_FS SH F_X9_most_53 := by
  intro k as M x M' h
  unfold F_X9_most_53 at h
  split at h
  · rename_i hk; subst hk
    split at h
    · exact dc_X9_in _ _ _ _ _ _ h
    · cases h
  split at h
  · rename_i hk; subst hk
    split at h
    · exact dc_X9_layValues_53 _ _ _ _ _ h
    · cases h
  cases h
noncomputable def X_X9_most_53 (v1 v2 : Int) (M : am_M) : am_Rs :=
  (X_X9_in (wI v1) 0 1 M).bind fun z1 =>
  if wI z1.1 = 0 then
   some ((-1), z1.2)
  else (X_X9_in (wI v2) 0 20 z1.2).bind fun z2 =>
  if wI z2.1 = 0 then
   some ((-1), z2.2)
  else if wI (z2.2 53 1) = 0 then
   some ((-4), z2.2)
  else (X_X9_layValues_53 v2 (-1) (am_up (am_up z2.2 53 22 2) 53 23 v1)).bind fun z3 =>
  if 0 ≤ wI (z3.2 54 1) ∧ wI (z3.2 54 1) < 273 then
  some (-(z3.2 64 (wI (z3.2 54 1)).toNat), z3.2)
  else none
set_option maxRecDepth 100000 in
theorem dc_X9_most_53 (v1 v2 : Int) (M M' : am_M) (x : Int) (h : X_X9_most_53 v1 v2 M = some (x, M')) : am_Calls 240 [.inr (.inr (some 53)), .inl v1, .inl v2] SH M (am_rv (am_rk 240) x) SH M' :=
  vCall (F := F_X9_most_53) (C := fun _ _ _ _ => none) (fu := 8) ok_X9_most pn_X9_most ml_X9_most rfl (Nat.le_of_ble_eq_true rfl) fs_X9_most_53 (fun _ _ _ _ h => by cases h) h
noncomputable def F_X9_now_53 : Nat → List am_V → am_M → am_Rs := fun k as M => if k = 198 then (match as with
  | [.inr (.inr (some 53)), .inl a1, .inl a2, .inl a3, .inl a4] => X_X9_paysTo_53 a1 a2 a3 a4 M
  | _ => none) else none
theorem fs_X9_now_53 : am_FS SH F_X9_now_53 := by
  intro k as M x M' h
  unfold F_X9_now_53 at h
  split at h
  · rename_i hk; subst hk
    split at h
    · exact dc_X9_paysTo_53 _ _ _ _ _ _ _ h
    · cases h
  cases h
noncomputable def XB_X9_now_53_3 (c3 : Int → Int → am_M → am_Rs) (c5 : Int → am_M → am_Rs) (v1 v2 : Int) (M : am_M) : am_Rs :=
  if wI v2 < wI (M 53 1) then
   (X_X9_paysTo_53 v2 0 (M 54 1) (M 54 2) M).bind fun z1 =>
   (X_X9_paysTo_53 v2 1 (z1.2 54 1) (z1.2 54 3) z1.2).bind fun z2 =>
   c3 (v1 + z1.1) (v2 + 1) (am_up z2.2 53 8 ((z1.2 53 8) + z2.1))
  else c5 v1 M
set_option maxRecDepth 100000 in
theorem rs_X9_now_53_3 {x : Int} {M' : am_M} {c3 : Int → Int → am_M → am_Rs} {c5 : Int → am_M → am_Rs} (h3 : ∀ w1 w2 M, c3 w1 w2 M = some (x, M') → am_R none 241 bk_X9_now 3 (am_wr [56, 1, 1] [w1, w2]) [] SH M (am_rv (am_rk 241) x) SH M') (h5 : ∀ w1 M, c5 w1 M = some (x, M') → am_R none 241 bk_X9_now 5 (am_wr [0, 1, 0] [w1]) [] SH M (am_rv (am_rk 241) x) SH M') (v1 v2 : Int) (M : am_M) (h : XB_X9_now_53_3 c3 c5 v1 v2 M = some (x, M')) : am_R none 241 bk_X9_now 3 (am_wr [56, 1, 1] [v1, v2]) [] SH M (am_rv (am_rk 241) x) SH M' :=
  vRegion (sc := none) (sh := SH) (F := F_X9_now_53) (k := 241) (bs := bk_X9_now) (r := (x, M')) (C := fun t lv st M => if t = 3 then vCt [56, 1, 1] (un2 c3) lv st M else if t = 5 then vCt [0, 1, 0] (un1 c5) lv st M else none) ok_X9_now fs_X9_now_53 (fun t lv st M h => by
    split at h
    · rename_i e; subst e; exact vCt_s (un2_s h3) h
    split at h
    · rename_i e; subst e; exact vCt_s (un1_s h5) h
    cases h) 8 3 (am_wr [56, 1, 1] [v1, v2]) [] M h
noncomputable def XB_X9_now_53_5 (v1 : Int) (M : am_M) : am_Rs :=
  some (v1, M)
set_option maxRecDepth 100000 in
theorem rs_X9_now_53_5 {x : Int} {M' : am_M} (v1 : Int) (M : am_M) (h : XB_X9_now_53_5 v1 M = some (x, M')) : am_R none 241 bk_X9_now 5 (am_wr [0, 1, 0] [v1]) [] SH M (am_rv (am_rk 241) x) SH M' :=
  vRegion (sc := none) (sh := SH) (F := F_X9_now_53) (k := 241) (bs := bk_X9_now) (r := (x, M')) (C := fun t lv st M => none) ok_X9_now fs_X9_now_53 (fun t lv st M h => by
    cases h) 8 5 (am_wr [0, 1, 0] [v1]) [] M h
noncomputable def XB_X9_now_53_e (c3 : Int → Int → am_M → am_Rs) (M : am_M) : am_Rs :=
  if wI (M 53 1) = 0 then
   some ((-4), M)
  else c3 0 0 (am_up M 53 8 0)
set_option maxRecDepth 100000 in
theorem rs_X9_now_53_e {x : Int} {M' : am_M} {c3 : Int → Int → am_M → am_Rs} (h3 : ∀ w1 w2 M, c3 w1 w2 M = some (x, M') → am_R none 241 bk_X9_now 3 (am_wr [56, 1, 1] [w1, w2]) [] SH M (am_rv (am_rk 241) x) SH M') (M : am_M) (h : XB_X9_now_53_e c3 M = some (x, M')) : am_R none 241 bk_X9_now 0 (am_ent 3 [.inr (.inr (some 53))]) [] SH M (am_rv (am_rk 241) x) SH M' :=
  vRegion (sc := none) (sh := SH) (F := F_X9_now_53) (k := 241) (bs := bk_X9_now) (r := (x, M')) (C := fun t lv st M => if t = 3 then vCt [56, 1, 1] (un2 c3) lv st M else none) ok_X9_now fs_X9_now_53 (fun t lv st M h => by
    split at h
    · rename_i e; subst e; exact vCt_s (un2_s h3) h
    cases h) 8 0 (am_ent 3 [.inr (.inr (some 53))]) [] M h
noncomputable def XL_X9_now_53_3 (k5 : Int → am_M → am_Rs) : Nat → Int → Int → am_M → am_Rs
  | 0, _, _, _ => none
  | n + 1, v1, v2, M => XB_X9_now_53_3 (XL_X9_now_53_3 k5 n) k5 v1 v2 M
theorem ls_X9_now_53_3 {x : Int} {M' : am_M} {k5 : Int → am_M → am_Rs} (hk5 : ∀ w1 M, k5 w1 M = some (x, M') → am_R none 241 bk_X9_now 5 (am_wr [0, 1, 0] [w1]) [] SH M (am_rv (am_rk 241) x) SH M') : ∀ (n : Nat) (v1 v2 : Int) (M : am_M), XL_X9_now_53_3 k5 n v1 v2 M = some (x, M') → am_R none 241 bk_X9_now 3 (am_wr [56, 1, 1] [v1, v2]) [] SH M (am_rv (am_rk 241) x) SH M'
  | 0, v1, v2, M, h => by cases h
  | n + 1, v1, v2, M, h => rs_X9_now_53_3 (ls_X9_now_53_3 hk5 n) hk5 v1 v2 M h
noncomputable def X_X9_now_53 (M : am_M) : am_Rs := XB_X9_now_53_e (XL_X9_now_53_3 (XB_X9_now_53_5) 1000) M
theorem dc_X9_now_53 (M M' : am_M) (x : Int) (h : X_X9_now_53 M = some (x, M')) : am_Calls 241 [.inr (.inr (some 53))] SH M (am_rv (am_rk 241) x) SH M' :=
  am_enter pn_X9_now ml_X9_now rfl (Nat.le_of_ble_eq_true rfl) ⟨Nat.le_refl _, Nat.le_refl _⟩ (rs_X9_now_53_e (ls_X9_now_53_3 (rs_X9_now_53_5) 1000) M h)
noncomputable def F_X9_layChances_53 : Nat → List am_V → am_M → am_Rs := fun k as M => if k = 196 then (match as with
  | [.inr (.inr (some 53)), .inl a1, .inl a2, .inl a3, .inl a4] => X_X9_behind_53 a1 a2 a3 a4 M
  | _ => none) else if k = 225 then (match as with
  | [.inr (.inr (some 53)), .inl a1, .inl a2, .inl a3] => X_X9_paysOn_53 a1 a2 a3 M
  | _ => none) else none
theorem fs_X9_layChances_53 : am_FS SH F_X9_layChances_53 := by
  intro k as M x M' h
  unfold F_X9_layChances_53 at h
  split at h
  · rename_i hk; subst hk
    split at h
    · exact dc_X9_behind_53 _ _ _ _ _ _ _ h
    · cases h
  split at h
  · rename_i hk; subst hk
    split at h
    · exact dc_X9_paysOn_53 _ _ _ _ _ _ h
    · cases h
  cases h
noncomputable def XB_X9_layChances_53_1 (c1 : Int → Int → Int → Int → am_M → am_Rs) (c6 : Int → Int → Int → am_M → am_Rs) (v1 v2 v3 v4 : Int) (M : am_M) : am_Rs :=
  if wI v4 < 13 then
   if wI v4 = wI (M 54 1) then
    if 0 ≤ wI v4 ∧ wI v4 < 13 then
    c1 v1 v2 v3 (v4 + 1) (am_up M 66 (wI v4).toNat 1)
    else none
   else if 0 ≤ wI v4 ∧ wI v4 < 13 then
   c1 v1 v2 v3 (v4 + 1) (am_up M 66 (wI v4).toNat 0)
   else none
  else c6 v1 v2 v3 M
set_option maxRecDepth 100000 in
theorem rs_X9_layChances_53_1 {x : Int} {M' : am_M} {c1 : Int → Int → Int → Int → am_M → am_Rs} {c6 : Int → Int → Int → am_M → am_Rs} (h1 : ∀ w1 w2 w3 w4 M, c1 w1 w2 w3 w4 M = some (x, M') → am_R none 242 bk_X9_layChances 1 (am_wr [56, 1, 1, 1, 1, 0, 0, 0, 0] [w1, w2, w3, w4]) [] SH M (am_rv (am_rk 242) x) SH M') (h6 : ∀ w1 w2 w3 M, c6 w1 w2 w3 M = some (x, M') → am_R none 242 bk_X9_layChances 6 (am_wr [56, 1, 1, 1, 0, 0, 0, 0, 0] [w1, w2, w3]) [] SH M (am_rv (am_rk 242) x) SH M') (v1 v2 v3 v4 : Int) (M : am_M) (h : XB_X9_layChances_53_1 c1 c6 v1 v2 v3 v4 M = some (x, M')) : am_R none 242 bk_X9_layChances 1 (am_wr [56, 1, 1, 1, 1, 0, 0, 0, 0] [v1, v2, v3, v4]) [] SH M (am_rv (am_rk 242) x) SH M' :=
  vRegion (sc := none) (sh := SH) (F := F_X9_layChances_53) (k := 242) (bs := bk_X9_layChances) (r := (x, M')) (C := fun t lv st M => if t = 1 then vCt [56, 1, 1, 1, 1, 0, 0, 0, 0] (un4 c1) lv st M else if t = 6 then vCt [56, 1, 1, 1, 0, 0, 0, 0, 0] (un3 c6) lv st M else none) ok_X9_layChances fs_X9_layChances_53 (fun t lv st M h => by
    split at h
    · rename_i e; subst e; exact vCt_s (un4_s h1) h
    split at h
    · rename_i e; subst e; exact vCt_s (un3_s h6) h
    cases h) 30 1 (am_wr [56, 1, 1, 1, 1, 0, 0, 0, 0] [v1, v2, v3, v4]) [] M h
noncomputable def XB_X9_layChances_53_6 (c7 : Int → Int → Int → Int → am_M → am_Rs) (v1 v2 v3 : Int) (M : am_M) : am_Rs :=
  c7 v1 v2 v3 0 (am_up M 53 27 0)
set_option maxRecDepth 100000 in
theorem rs_X9_layChances_53_6 {x : Int} {M' : am_M} {c7 : Int → Int → Int → Int → am_M → am_Rs} (h7 : ∀ w1 w2 w3 w4 M, c7 w1 w2 w3 w4 M = some (x, M') → am_R none 242 bk_X9_layChances 7 (am_wr [56, 1, 1, 1, 1, 0, 0, 0, 0] [w1, w2, w3, w4]) [] SH M (am_rv (am_rk 242) x) SH M') (v1 v2 v3 : Int) (M : am_M) (h : XB_X9_layChances_53_6 c7 v1 v2 v3 M = some (x, M')) : am_R none 242 bk_X9_layChances 6 (am_wr [56, 1, 1, 1, 0, 0, 0, 0, 0] [v1, v2, v3]) [] SH M (am_rv (am_rk 242) x) SH M' :=
  vRegion (sc := none) (sh := SH) (F := F_X9_layChances_53) (k := 242) (bs := bk_X9_layChances) (r := (x, M')) (C := fun t lv st M => if t = 7 then vCt [56, 1, 1, 1, 1, 0, 0, 0, 0] (un4 c7) lv st M else none) ok_X9_layChances fs_X9_layChances_53 (fun t lv st M h => by
    split at h
    · rename_i e; subst e; exact vCt_s (un4_s h7) h
    cases h) 30 6 (am_wr [56, 1, 1, 1, 0, 0, 0, 0, 0] [v1, v2, v3]) [] M h
noncomputable def XB_X9_layChances_53_7 (c9 : Int → Int → Int → Int → Int → Int → am_M → am_Rs) (c27 : am_M → am_Rs) (v1 v2 v3 v4 : Int) (M : am_M) : am_Rs :=
  if wI v4 < wI v1 then
   c9 v1 v2 v3 v4 ((M 54 0) + v4) 0 (am_up M 53 27 ((M 53 27) * 16))
  else c27 M
set_option maxRecDepth 100000 in
theorem rs_X9_layChances_53_7 {x : Int} {M' : am_M} {c9 : Int → Int → Int → Int → Int → Int → am_M → am_Rs} {c27 : am_M → am_Rs} (h9 : ∀ w1 w2 w3 w4 w5 w6 M, c9 w1 w2 w3 w4 w5 w6 M = some (x, M') → am_R none 242 bk_X9_layChances 9 (am_wr [56, 1, 1, 1, 1, 1, 1, 0, 0] [w1, w2, w3, w4, w5, w6]) [] SH M (am_rv (am_rk 242) x) SH M') (h27 : ∀ M, c27 M = some (x, M') → am_R none 242 bk_X9_layChances 27 (am_wr [0, 0, 0, 0, 0, 0, 0, 0, 0] []) [] SH M (am_rv (am_rk 242) x) SH M') (v1 v2 v3 v4 : Int) (M : am_M) (h : XB_X9_layChances_53_7 c9 c27 v1 v2 v3 v4 M = some (x, M')) : am_R none 242 bk_X9_layChances 7 (am_wr [56, 1, 1, 1, 1, 0, 0, 0, 0] [v1, v2, v3, v4]) [] SH M (am_rv (am_rk 242) x) SH M' :=
  vRegion (sc := none) (sh := SH) (F := F_X9_layChances_53) (k := 242) (bs := bk_X9_layChances) (r := (x, M')) (C := fun t lv st M => if t = 9 then vCt [56, 1, 1, 1, 1, 1, 1, 0, 0] (un6 c9) lv st M else if t = 27 then vCt [0, 0, 0, 0, 0, 0, 0, 0, 0] (un0 c27) lv st M else none) ok_X9_layChances fs_X9_layChances_53 (fun t lv st M h => by
    split at h
    · rename_i e; subst e; exact vCt_s (un6_s h9) h
    split at h
    · rename_i e; subst e; exact vCt_s (un0_s h27) h
    cases h) 30 7 (am_wr [56, 1, 1, 1, 1, 0, 0, 0, 0] [v1, v2, v3, v4]) [] M h
noncomputable def XB_X9_layChances_53_9 (c9 : Int → Int → Int → Int → Int → Int → am_M → am_Rs) (c11 : Int → Int → Int → Int → Int → am_M → am_Rs) (v1 v2 v3 v4 v5 v6 : Int) (M : am_M) : am_Rs :=
  if wI v6 < 13 then
   if 0 ≤ wI v6 ∧ wI v6 < 13 then
   c9 v1 v2 v3 v4 v5 (v6 + 1) (am_up M 67 (wI v6).toNat 0)
   else none
  else c11 v1 v2 v3 v4 v5 M
set_option maxRecDepth 100000 in
theorem rs_X9_layChances_53_9 {x : Int} {M' : am_M} {c9 : Int → Int → Int → Int → Int → Int → am_M → am_Rs} {c11 : Int → Int → Int → Int → Int → am_M → am_Rs} (h9 : ∀ w1 w2 w3 w4 w5 w6 M, c9 w1 w2 w3 w4 w5 w6 M = some (x, M') → am_R none 242 bk_X9_layChances 9 (am_wr [56, 1, 1, 1, 1, 1, 1, 0, 0] [w1, w2, w3, w4, w5, w6]) [] SH M (am_rv (am_rk 242) x) SH M') (h11 : ∀ w1 w2 w3 w4 w5 M, c11 w1 w2 w3 w4 w5 M = some (x, M') → am_R none 242 bk_X9_layChances 11 (am_wr [56, 1, 1, 1, 1, 1, 0, 0, 0] [w1, w2, w3, w4, w5]) [] SH M (am_rv (am_rk 242) x) SH M') (v1 v2 v3 v4 v5 v6 : Int) (M : am_M) (h : XB_X9_layChances_53_9 c9 c11 v1 v2 v3 v4 v5 v6 M = some (x, M')) : am_R none 242 bk_X9_layChances 9 (am_wr [56, 1, 1, 1, 1, 1, 1, 0, 0] [v1, v2, v3, v4, v5, v6]) [] SH M (am_rv (am_rk 242) x) SH M' :=
  vRegion (sc := none) (sh := SH) (F := F_X9_layChances_53) (k := 242) (bs := bk_X9_layChances) (r := (x, M')) (C := fun t lv st M => if t = 9 then vCt [56, 1, 1, 1, 1, 1, 1, 0, 0] (un6 c9) lv st M else if t = 11 then vCt [56, 1, 1, 1, 1, 1, 0, 0, 0] (un5 c11) lv st M else none) ok_X9_layChances fs_X9_layChances_53 (fun t lv st M h => by
    split at h
    · rename_i e; subst e; exact vCt_s (un6_s h9) h
    split at h
    · rename_i e; subst e; exact vCt_s (un5_s h11) h
    cases h) 30 9 (am_wr [56, 1, 1, 1, 1, 1, 1, 0, 0] [v1, v2, v3, v4, v5, v6]) [] M h
noncomputable def XB_X9_layChances_53_27 (M : am_M) : am_Rs :=
  some (0, M)
set_option maxRecDepth 100000 in
theorem rs_X9_layChances_53_27 {x : Int} {M' : am_M} (M : am_M) (h : XB_X9_layChances_53_27 M = some (x, M')) : am_R none 242 bk_X9_layChances 27 (am_wr [0, 0, 0, 0, 0, 0, 0, 0, 0] []) [] SH M (am_rv (am_rk 242) x) SH M' :=
  vRegion (sc := none) (sh := SH) (F := F_X9_layChances_53) (k := 242) (bs := bk_X9_layChances) (r := (x, M')) (C := fun t lv st M => none) ok_X9_layChances fs_X9_layChances_53 (fun t lv st M h => by
    cases h) 30 27 (am_wr [0, 0, 0, 0, 0, 0, 0, 0, 0] []) [] M h
noncomputable def XB_X9_layChances_53_11 (c12 : Int → Int → Int → Int → Int → Int → am_M → am_Rs) (v1 v2 v3 v4 v5 : Int) (M : am_M) : am_Rs :=
  c12 v1 v2 v3 v4 v5 0 M
set_option maxRecDepth 100000 in
theorem rs_X9_layChances_53_11 {x : Int} {M' : am_M} {c12 : Int → Int → Int → Int → Int → Int → am_M → am_Rs} (h12 : ∀ w1 w2 w3 w4 w5 w6 M, c12 w1 w2 w3 w4 w5 w6 M = some (x, M') → am_R none 242 bk_X9_layChances 12 (am_wr [56, 1, 1, 1, 1, 1, 1, 0, 0] [w1, w2, w3, w4, w5, w6]) [] SH M (am_rv (am_rk 242) x) SH M') (v1 v2 v3 v4 v5 : Int) (M : am_M) (h : XB_X9_layChances_53_11 c12 v1 v2 v3 v4 v5 M = some (x, M')) : am_R none 242 bk_X9_layChances 11 (am_wr [56, 1, 1, 1, 1, 1, 0, 0, 0] [v1, v2, v3, v4, v5]) [] SH M (am_rv (am_rk 242) x) SH M' :=
  vRegion (sc := none) (sh := SH) (F := F_X9_layChances_53) (k := 242) (bs := bk_X9_layChances) (r := (x, M')) (C := fun t lv st M => if t = 12 then vCt [56, 1, 1, 1, 1, 1, 1, 0, 0] (un6 c12) lv st M else none) ok_X9_layChances fs_X9_layChances_53 (fun t lv st M h => by
    split at h
    · rename_i e; subst e; exact vCt_s (un6_s h12) h
    cases h) 30 11 (am_wr [56, 1, 1, 1, 1, 1, 0, 0, 0] [v1, v2, v3, v4, v5]) [] M h
noncomputable def XB_X9_layChances_53_12 (c14 : Int → Int → Int → Int → Int → Int → Int → am_M → am_Rs) (c23 : Int → Int → Int → Int → am_M → am_Rs) (v1 v2 v3 v4 v5 v6 : Int) (M : am_M) : am_Rs :=
  if wI (M 53 1) < wI v6 then
   c23 v1 v2 v3 v4 M
  else c14 v1 v2 v3 v4 v5 v6 0 M
set_option maxRecDepth 100000 in
theorem rs_X9_layChances_53_12 {x : Int} {M' : am_M} {c14 : Int → Int → Int → Int → Int → Int → Int → am_M → am_Rs} {c23 : Int → Int → Int → Int → am_M → am_Rs} (h14 : ∀ w1 w2 w3 w4 w5 w6 w7 M, c14 w1 w2 w3 w4 w5 w6 w7 M = some (x, M') → am_R none 242 bk_X9_layChances 14 (am_wr [56, 1, 1, 1, 1, 1, 1, 1, 0] [w1, w2, w3, w4, w5, w6, w7]) [] SH M (am_rv (am_rk 242) x) SH M') (h23 : ∀ w1 w2 w3 w4 M, c23 w1 w2 w3 w4 M = some (x, M') → am_R none 242 bk_X9_layChances 23 (am_wr [56, 1, 1, 1, 1, 0, 0, 0, 0] [w1, w2, w3, w4]) [] SH M (am_rv (am_rk 242) x) SH M') (v1 v2 v3 v4 v5 v6 : Int) (M : am_M) (h : XB_X9_layChances_53_12 c14 c23 v1 v2 v3 v4 v5 v6 M = some (x, M')) : am_R none 242 bk_X9_layChances 12 (am_wr [56, 1, 1, 1, 1, 1, 1, 0, 0] [v1, v2, v3, v4, v5, v6]) [] SH M (am_rv (am_rk 242) x) SH M' :=
  vRegion (sc := none) (sh := SH) (F := F_X9_layChances_53) (k := 242) (bs := bk_X9_layChances) (r := (x, M')) (C := fun t lv st M => if t = 14 then vCt [56, 1, 1, 1, 1, 1, 1, 1, 0] (un7 c14) lv st M else if t = 23 then vCt [56, 1, 1, 1, 1, 0, 0, 0, 0] (un4 c23) lv st M else none) ok_X9_layChances fs_X9_layChances_53 (fun t lv st M h => by
    split at h
    · rename_i e; subst e; exact vCt_s (un7_s h14) h
    split at h
    · rename_i e; subst e; exact vCt_s (un4_s h23) h
    cases h) 30 12 (am_wr [56, 1, 1, 1, 1, 1, 1, 0, 0] [v1, v2, v3, v4, v5, v6]) [] M h
noncomputable def XB_X9_layChances_53_14 (c14 : Int → Int → Int → Int → Int → Int → Int → am_M → am_Rs) (c22 : Int → Int → Int → Int → Int → Int → am_M → am_Rs) (v1 v2 v3 v4 v5 v6 v7 : Int) (M : am_M) : am_Rs :=
  if wI v7 < 16 then
   if wI v6 = wI v2 then
    if 0 ≤ wI v6 ∧ wI v6 < 13 then
    if 0 ≤ wI v6 ∧ wI v6 < 13 then
     if 0 ≤ wI v6 ∧ wI v6 < 13 then
      if wI v3 < 0 then
        c14 v1 v2 v3 v4 v5 v6 (v7 + 1) (am_up (am_up M 67 (wI v6).toNat ((M 67 (wI v6).toNat) + (M 66 (wI v6).toNat))) 53 27 (((am_up M 67 (wI v6).toNat ((M 67 (wI v6).toNat) + (M 66 (wI v6).toNat))) 53 27) + 0))
       else if 0 ≤ wI v6 ∧ wI v6 < 13 then
       (X_X9_paysOn_53 v3 v5 v6 (am_up M 67 (wI v6).toNat ((M 67 (wI v6).toNat) + (M 66 (wI v6).toNat)))).bind fun z1 =>
        c14 v1 v2 v3 v4 v5 v6 (v7 + 1) (am_up z1.2 53 27 (((am_up M 67 (wI v6).toNat ((M 67 (wI v6).toNat) + (M 66 (wI v6).toNat))) 53 27) + (((am_up M 67 (wI v6).toNat ((M 67 (wI v6).toNat) + (M 66 (wI v6).toNat))) 66 (wI v6).toNat) * (wI z1.1))))
       else none
      else none
     else none
    else none
   else (X_X9_behind_53 v6 v5 ((wI v7).tdiv 4) ((wI v7).tmod 4) M).bind fun z1 =>
   if 0 ≤ wI z1.1 ∧ wI z1.1 < 13 then
   if 0 ≤ wI v6 ∧ wI v6 < 13 then
    if 0 ≤ wI z1.1 ∧ wI z1.1 < 13 then
     if wI v3 < 0 then
       c14 v1 v2 v3 v4 v5 v6 (v7 + 1) (am_up (am_up z1.2 67 (wI z1.1).toNat ((z1.2 67 (wI z1.1).toNat) + (z1.2 66 (wI v6).toNat))) 53 27 (((am_up z1.2 67 (wI z1.1).toNat ((z1.2 67 (wI z1.1).toNat) + (z1.2 66 (wI v6).toNat))) 53 27) + 0))
      else if 0 ≤ wI v6 ∧ wI v6 < 13 then
      (X_X9_paysOn_53 v3 v5 z1.1 (am_up z1.2 67 (wI z1.1).toNat ((z1.2 67 (wI z1.1).toNat) + (z1.2 66 (wI v6).toNat)))).bind fun z2 =>
       c14 v1 v2 v3 v4 v5 v6 (v7 + 1) (am_up z2.2 53 27 (((am_up z1.2 67 (wI z1.1).toNat ((z1.2 67 (wI z1.1).toNat) + (z1.2 66 (wI v6).toNat))) 53 27) + (((am_up z1.2 67 (wI z1.1).toNat ((z1.2 67 (wI z1.1).toNat) + (z1.2 66 (wI v6).toNat))) 66 (wI v6).toNat) * (wI z2.1))))
      else none
     else none
    else none
   else none
  else c22 v1 v2 v3 v4 v5 v6 M
set_option maxRecDepth 100000 in
theorem rs_X9_layChances_53_14 {x : Int} {M' : am_M} {c14 : Int → Int → Int → Int → Int → Int → Int → am_M → am_Rs} {c22 : Int → Int → Int → Int → Int → Int → am_M → am_Rs} (h14 : ∀ w1 w2 w3 w4 w5 w6 w7 M, c14 w1 w2 w3 w4 w5 w6 w7 M = some (x, M') → am_R none 242 bk_X9_layChances 14 (am_wr [56, 1, 1, 1, 1, 1, 1, 1, 0] [w1, w2, w3, w4, w5, w6, w7]) [] SH M (am_rv (am_rk 242) x) SH M') (h22 : ∀ w1 w2 w3 w4 w5 w6 M, c22 w1 w2 w3 w4 w5 w6 M = some (x, M') → am_R none 242 bk_X9_layChances 22 (am_wr [56, 1, 1, 1, 1, 1, 1, 0, 0] [w1, w2, w3, w4, w5, w6]) [] SH M (am_rv (am_rk 242) x) SH M') (v1 v2 v3 v4 v5 v6 v7 : Int) (M : am_M) (h : XB_X9_layChances_53_14 c14 c22 v1 v2 v3 v4 v5 v6 v7 M = some (x, M')) : am_R none 242 bk_X9_layChances 14 (am_wr [56, 1, 1, 1, 1, 1, 1, 1, 0] [v1, v2, v3, v4, v5, v6, v7]) [] SH M (am_rv (am_rk 242) x) SH M' :=
  vRegion (sc := none) (sh := SH) (F := F_X9_layChances_53) (k := 242) (bs := bk_X9_layChances) (r := (x, M')) (C := fun t lv st M => if t = 14 then vCt [56, 1, 1, 1, 1, 1, 1, 1, 0] (un7 c14) lv st M else if t = 22 then vCt [56, 1, 1, 1, 1, 1, 1, 0, 0] (un6 c22) lv st M else none) ok_X9_layChances fs_X9_layChances_53 (fun t lv st M h => by
    split at h
    · rename_i e; subst e; exact vCt_s (un7_s h14) h
    split at h
    · rename_i e; subst e; exact vCt_s (un6_s h22) h
    cases h) 30 14 (am_wr [56, 1, 1, 1, 1, 1, 1, 1, 0] [v1, v2, v3, v4, v5, v6, v7]) [] M h
noncomputable def XB_X9_layChances_53_23 (c24 : Int → Int → Int → Int → Int → am_M → am_Rs) (v1 v2 v3 v4 : Int) (M : am_M) : am_Rs :=
  c24 v1 v2 v3 v4 0 M
set_option maxRecDepth 100000 in
theorem rs_X9_layChances_53_23 {x : Int} {M' : am_M} {c24 : Int → Int → Int → Int → Int → am_M → am_Rs} (h24 : ∀ w1 w2 w3 w4 w6 M, c24 w1 w2 w3 w4 w6 M = some (x, M') → am_R none 242 bk_X9_layChances 24 (am_wr [56, 1, 1, 1, 1, 0, 1, 0, 0] [w1, w2, w3, w4, w6]) [] SH M (am_rv (am_rk 242) x) SH M') (v1 v2 v3 v4 : Int) (M : am_M) (h : XB_X9_layChances_53_23 c24 v1 v2 v3 v4 M = some (x, M')) : am_R none 242 bk_X9_layChances 23 (am_wr [56, 1, 1, 1, 1, 0, 0, 0, 0] [v1, v2, v3, v4]) [] SH M (am_rv (am_rk 242) x) SH M' :=
  vRegion (sc := none) (sh := SH) (F := F_X9_layChances_53) (k := 242) (bs := bk_X9_layChances) (r := (x, M')) (C := fun t lv st M => if t = 24 then vCt [56, 1, 1, 1, 1, 0, 1, 0, 0] (un5 c24) lv st M else none) ok_X9_layChances fs_X9_layChances_53 (fun t lv st M h => by
    split at h
    · rename_i e; subst e; exact vCt_s (un5_s h24) h
    cases h) 30 23 (am_wr [56, 1, 1, 1, 1, 0, 0, 0, 0] [v1, v2, v3, v4]) [] M h
noncomputable def XB_X9_layChances_53_22 (c12 : Int → Int → Int → Int → Int → Int → am_M → am_Rs) (v1 v2 v3 v4 v5 v6 : Int) (M : am_M) : am_Rs :=
  c12 v1 v2 v3 v4 v5 (v6 + 1) M
set_option maxRecDepth 100000 in
theorem rs_X9_layChances_53_22 {x : Int} {M' : am_M} {c12 : Int → Int → Int → Int → Int → Int → am_M → am_Rs} (h12 : ∀ w1 w2 w3 w4 w5 w6 M, c12 w1 w2 w3 w4 w5 w6 M = some (x, M') → am_R none 242 bk_X9_layChances 12 (am_wr [56, 1, 1, 1, 1, 1, 1, 0, 0] [w1, w2, w3, w4, w5, w6]) [] SH M (am_rv (am_rk 242) x) SH M') (v1 v2 v3 v4 v5 v6 : Int) (M : am_M) (h : XB_X9_layChances_53_22 c12 v1 v2 v3 v4 v5 v6 M = some (x, M')) : am_R none 242 bk_X9_layChances 22 (am_wr [56, 1, 1, 1, 1, 1, 1, 0, 0] [v1, v2, v3, v4, v5, v6]) [] SH M (am_rv (am_rk 242) x) SH M' :=
  vRegion (sc := none) (sh := SH) (F := F_X9_layChances_53) (k := 242) (bs := bk_X9_layChances) (r := (x, M')) (C := fun t lv st M => if t = 12 then vCt [56, 1, 1, 1, 1, 1, 1, 0, 0] (un6 c12) lv st M else none) ok_X9_layChances fs_X9_layChances_53 (fun t lv st M h => by
    split at h
    · rename_i e; subst e; exact vCt_s (un6_s h12) h
    cases h) 30 22 (am_wr [56, 1, 1, 1, 1, 1, 1, 0, 0] [v1, v2, v3, v4, v5, v6]) [] M h
noncomputable def XB_X9_layChances_53_24 (c24 : Int → Int → Int → Int → Int → am_M → am_Rs) (c26 : Int → Int → Int → Int → am_M → am_Rs) (v1 v2 v3 v4 v6 : Int) (M : am_M) : am_Rs :=
  if wI v6 < 13 then
   if 0 ≤ wI v6 ∧ wI v6 < 13 then
   if 0 ≤ wI v6 ∧ wI v6 < 13 then
    c24 v1 v2 v3 v4 (v6 + 1) (am_up M 66 (wI v6).toNat (M 67 (wI v6).toNat))
    else none
   else none
  else c26 v1 v2 v3 v4 M
set_option maxRecDepth 100000 in
theorem rs_X9_layChances_53_24 {x : Int} {M' : am_M} {c24 : Int → Int → Int → Int → Int → am_M → am_Rs} {c26 : Int → Int → Int → Int → am_M → am_Rs} (h24 : ∀ w1 w2 w3 w4 w6 M, c24 w1 w2 w3 w4 w6 M = some (x, M') → am_R none 242 bk_X9_layChances 24 (am_wr [56, 1, 1, 1, 1, 0, 1, 0, 0] [w1, w2, w3, w4, w6]) [] SH M (am_rv (am_rk 242) x) SH M') (h26 : ∀ w1 w2 w3 w4 M, c26 w1 w2 w3 w4 M = some (x, M') → am_R none 242 bk_X9_layChances 26 (am_wr [56, 1, 1, 1, 1, 0, 0, 0, 0] [w1, w2, w3, w4]) [] SH M (am_rv (am_rk 242) x) SH M') (v1 v2 v3 v4 v6 : Int) (M : am_M) (h : XB_X9_layChances_53_24 c24 c26 v1 v2 v3 v4 v6 M = some (x, M')) : am_R none 242 bk_X9_layChances 24 (am_wr [56, 1, 1, 1, 1, 0, 1, 0, 0] [v1, v2, v3, v4, v6]) [] SH M (am_rv (am_rk 242) x) SH M' :=
  vRegion (sc := none) (sh := SH) (F := F_X9_layChances_53) (k := 242) (bs := bk_X9_layChances) (r := (x, M')) (C := fun t lv st M => if t = 24 then vCt [56, 1, 1, 1, 1, 0, 1, 0, 0] (un5 c24) lv st M else if t = 26 then vCt [56, 1, 1, 1, 1, 0, 0, 0, 0] (un4 c26) lv st M else none) ok_X9_layChances fs_X9_layChances_53 (fun t lv st M h => by
    split at h
    · rename_i e; subst e; exact vCt_s (un5_s h24) h
    split at h
    · rename_i e; subst e; exact vCt_s (un4_s h26) h
    cases h) 30 24 (am_wr [56, 1, 1, 1, 1, 0, 1, 0, 0] [v1, v2, v3, v4, v6]) [] M h
noncomputable def XB_X9_layChances_53_26 (c7 : Int → Int → Int → Int → am_M → am_Rs) (v1 v2 v3 v4 : Int) (M : am_M) : am_Rs :=
  c7 v1 v2 v3 (v4 + 1) M
set_option maxRecDepth 100000 in
theorem rs_X9_layChances_53_26 {x : Int} {M' : am_M} {c7 : Int → Int → Int → Int → am_M → am_Rs} (h7 : ∀ w1 w2 w3 w4 M, c7 w1 w2 w3 w4 M = some (x, M') → am_R none 242 bk_X9_layChances 7 (am_wr [56, 1, 1, 1, 1, 0, 0, 0, 0] [w1, w2, w3, w4]) [] SH M (am_rv (am_rk 242) x) SH M') (v1 v2 v3 v4 : Int) (M : am_M) (h : XB_X9_layChances_53_26 c7 v1 v2 v3 v4 M = some (x, M')) : am_R none 242 bk_X9_layChances 26 (am_wr [56, 1, 1, 1, 1, 0, 0, 0, 0] [v1, v2, v3, v4]) [] SH M (am_rv (am_rk 242) x) SH M' :=
  vRegion (sc := none) (sh := SH) (F := F_X9_layChances_53) (k := 242) (bs := bk_X9_layChances) (r := (x, M')) (C := fun t lv st M => if t = 7 then vCt [56, 1, 1, 1, 1, 0, 0, 0, 0] (un4 c7) lv st M else none) ok_X9_layChances fs_X9_layChances_53 (fun t lv st M h => by
    split at h
    · rename_i e; subst e; exact vCt_s (un4_s h7) h
    cases h) 30 26 (am_wr [56, 1, 1, 1, 1, 0, 0, 0, 0] [v1, v2, v3, v4]) [] M h
noncomputable def XB_X9_layChances_53_e (c1 : Int → Int → Int → Int → am_M → am_Rs) (v1 v2 v3 : Int) (M : am_M) : am_Rs :=
  c1 v1 v2 v3 0 M
set_option maxRecDepth 100000 in
theorem rs_X9_layChances_53_e {x : Int} {M' : am_M} {c1 : Int → Int → Int → Int → am_M → am_Rs} (h1 : ∀ w1 w2 w3 w4 M, c1 w1 w2 w3 w4 M = some (x, M') → am_R none 242 bk_X9_layChances 1 (am_wr [56, 1, 1, 1, 1, 0, 0, 0, 0] [w1, w2, w3, w4]) [] SH M (am_rv (am_rk 242) x) SH M') (v1 v2 v3 : Int) (M : am_M) (h : XB_X9_layChances_53_e c1 v1 v2 v3 M = some (x, M')) : am_R none 242 bk_X9_layChances 0 (am_ent 9 [.inr (.inr (some 53)), .inl v1, .inl v2, .inl v3]) [] SH M (am_rv (am_rk 242) x) SH M' :=
  vRegion (sc := none) (sh := SH) (F := F_X9_layChances_53) (k := 242) (bs := bk_X9_layChances) (r := (x, M')) (C := fun t lv st M => if t = 1 then vCt [56, 1, 1, 1, 1, 0, 0, 0, 0] (un4 c1) lv st M else none) ok_X9_layChances fs_X9_layChances_53 (fun t lv st M h => by
    split at h
    · rename_i e; subst e; exact vCt_s (un4_s h1) h
    cases h) 30 0 (am_ent 9 [.inr (.inr (some 53)), .inl v1, .inl v2, .inl v3]) [] M h
noncomputable def XL_X9_layChances_53_1 (k6 : Int → Int → Int → am_M → am_Rs) : Nat → Int → Int → Int → Int → am_M → am_Rs
  | 0, _, _, _, _, _ => none
  | n + 1, v1, v2, v3, v4, M => XB_X9_layChances_53_1 (XL_X9_layChances_53_1 k6 n) k6 v1 v2 v3 v4 M
theorem ls_X9_layChances_53_1 {x : Int} {M' : am_M} {k6 : Int → Int → Int → am_M → am_Rs} (hk6 : ∀ w1 w2 w3 M, k6 w1 w2 w3 M = some (x, M') → am_R none 242 bk_X9_layChances 6 (am_wr [56, 1, 1, 1, 0, 0, 0, 0, 0] [w1, w2, w3]) [] SH M (am_rv (am_rk 242) x) SH M') : ∀ (n : Nat) (v1 v2 v3 v4 : Int) (M : am_M), XL_X9_layChances_53_1 k6 n v1 v2 v3 v4 M = some (x, M') → am_R none 242 bk_X9_layChances 1 (am_wr [56, 1, 1, 1, 1, 0, 0, 0, 0] [v1, v2, v3, v4]) [] SH M (am_rv (am_rk 242) x) SH M'
  | 0, v1, v2, v3, v4, M, h => by cases h
  | n + 1, v1, v2, v3, v4, M, h => rs_X9_layChances_53_1 (ls_X9_layChances_53_1 hk6 n) hk6 v1 v2 v3 v4 M h
noncomputable def XL_X9_layChances_53_9 (k11 : Int → Int → Int → Int → Int → am_M → am_Rs) : Nat → Int → Int → Int → Int → Int → Int → am_M → am_Rs
  | 0, _, _, _, _, _, _, _ => none
  | n + 1, v1, v2, v3, v4, v5, v6, M => XB_X9_layChances_53_9 (XL_X9_layChances_53_9 k11 n) k11 v1 v2 v3 v4 v5 v6 M
theorem ls_X9_layChances_53_9 {x : Int} {M' : am_M} {k11 : Int → Int → Int → Int → Int → am_M → am_Rs} (hk11 : ∀ w1 w2 w3 w4 w5 M, k11 w1 w2 w3 w4 w5 M = some (x, M') → am_R none 242 bk_X9_layChances 11 (am_wr [56, 1, 1, 1, 1, 1, 0, 0, 0] [w1, w2, w3, w4, w5]) [] SH M (am_rv (am_rk 242) x) SH M') : ∀ (n : Nat) (v1 v2 v3 v4 v5 v6 : Int) (M : am_M), XL_X9_layChances_53_9 k11 n v1 v2 v3 v4 v5 v6 M = some (x, M') → am_R none 242 bk_X9_layChances 9 (am_wr [56, 1, 1, 1, 1, 1, 1, 0, 0] [v1, v2, v3, v4, v5, v6]) [] SH M (am_rv (am_rk 242) x) SH M'
  | 0, v1, v2, v3, v4, v5, v6, M, h => by cases h
  | n + 1, v1, v2, v3, v4, v5, v6, M, h => rs_X9_layChances_53_9 (ls_X9_layChances_53_9 hk11 n) hk11 v1 v2 v3 v4 v5 v6 M h
noncomputable def XL_X9_layChances_53_14 (k22 : Int → Int → Int → Int → Int → Int → am_M → am_Rs) : Nat → Int → Int → Int → Int → Int → Int → Int → am_M → am_Rs
  | 0, _, _, _, _, _, _, _, _ => none
  | n + 1, v1, v2, v3, v4, v5, v6, v7, M => XB_X9_layChances_53_14 (XL_X9_layChances_53_14 k22 n) k22 v1 v2 v3 v4 v5 v6 v7 M
theorem ls_X9_layChances_53_14 {x : Int} {M' : am_M} {k22 : Int → Int → Int → Int → Int → Int → am_M → am_Rs} (hk22 : ∀ w1 w2 w3 w4 w5 w6 M, k22 w1 w2 w3 w4 w5 w6 M = some (x, M') → am_R none 242 bk_X9_layChances 22 (am_wr [56, 1, 1, 1, 1, 1, 1, 0, 0] [w1, w2, w3, w4, w5, w6]) [] SH M (am_rv (am_rk 242) x) SH M') : ∀ (n : Nat) (v1 v2 v3 v4 v5 v6 v7 : Int) (M : am_M), XL_X9_layChances_53_14 k22 n v1 v2 v3 v4 v5 v6 v7 M = some (x, M') → am_R none 242 bk_X9_layChances 14 (am_wr [56, 1, 1, 1, 1, 1, 1, 1, 0] [v1, v2, v3, v4, v5, v6, v7]) [] SH M (am_rv (am_rk 242) x) SH M'
  | 0, v1, v2, v3, v4, v5, v6, v7, M, h => by cases h
  | n + 1, v1, v2, v3, v4, v5, v6, v7, M, h => rs_X9_layChances_53_14 (ls_X9_layChances_53_14 hk22 n) hk22 v1 v2 v3 v4 v5 v6 v7 M h
noncomputable def XL_X9_layChances_53_12 (k23 : Int → Int → Int → Int → am_M → am_Rs) : Nat → Int → Int → Int → Int → Int → Int → am_M → am_Rs
  | 0, _, _, _, _, _, _, _ => none
  | n + 1, v1, v2, v3, v4, v5, v6, M => XB_X9_layChances_53_12 (XL_X9_layChances_53_14 (XB_X9_layChances_53_22 (XL_X9_layChances_53_12 k23 n)) 1000) k23 v1 v2 v3 v4 v5 v6 M
theorem ls_X9_layChances_53_12 {x : Int} {M' : am_M} {k23 : Int → Int → Int → Int → am_M → am_Rs} (hk23 : ∀ w1 w2 w3 w4 M, k23 w1 w2 w3 w4 M = some (x, M') → am_R none 242 bk_X9_layChances 23 (am_wr [56, 1, 1, 1, 1, 0, 0, 0, 0] [w1, w2, w3, w4]) [] SH M (am_rv (am_rk 242) x) SH M') : ∀ (n : Nat) (v1 v2 v3 v4 v5 v6 : Int) (M : am_M), XL_X9_layChances_53_12 k23 n v1 v2 v3 v4 v5 v6 M = some (x, M') → am_R none 242 bk_X9_layChances 12 (am_wr [56, 1, 1, 1, 1, 1, 1, 0, 0] [v1, v2, v3, v4, v5, v6]) [] SH M (am_rv (am_rk 242) x) SH M'
  | 0, v1, v2, v3, v4, v5, v6, M, h => by cases h
  | n + 1, v1, v2, v3, v4, v5, v6, M, h => rs_X9_layChances_53_12 (ls_X9_layChances_53_14 (rs_X9_layChances_53_22 (ls_X9_layChances_53_12 hk23 n)) 1000) hk23 v1 v2 v3 v4 v5 v6 M h
noncomputable def XL_X9_layChances_53_24 (k26 : Int → Int → Int → Int → am_M → am_Rs) : Nat → Int → Int → Int → Int → Int → am_M → am_Rs
  | 0, _, _, _, _, _, _ => none
  | n + 1, v1, v2, v3, v4, v6, M => XB_X9_layChances_53_24 (XL_X9_layChances_53_24 k26 n) k26 v1 v2 v3 v4 v6 M
theorem ls_X9_layChances_53_24 {x : Int} {M' : am_M} {k26 : Int → Int → Int → Int → am_M → am_Rs} (hk26 : ∀ w1 w2 w3 w4 M, k26 w1 w2 w3 w4 M = some (x, M') → am_R none 242 bk_X9_layChances 26 (am_wr [56, 1, 1, 1, 1, 0, 0, 0, 0] [w1, w2, w3, w4]) [] SH M (am_rv (am_rk 242) x) SH M') : ∀ (n : Nat) (v1 v2 v3 v4 v6 : Int) (M : am_M), XL_X9_layChances_53_24 k26 n v1 v2 v3 v4 v6 M = some (x, M') → am_R none 242 bk_X9_layChances 24 (am_wr [56, 1, 1, 1, 1, 0, 1, 0, 0] [v1, v2, v3, v4, v6]) [] SH M (am_rv (am_rk 242) x) SH M'
  | 0, v1, v2, v3, v4, v6, M, h => by cases h
  | n + 1, v1, v2, v3, v4, v6, M, h => rs_X9_layChances_53_24 (ls_X9_layChances_53_24 hk26 n) hk26 v1 v2 v3 v4 v6 M h
noncomputable def XL_X9_layChances_53_7 (k27 : am_M → am_Rs) : Nat → Int → Int → Int → Int → am_M → am_Rs
  | 0, _, _, _, _, _ => none
  | n + 1, v1, v2, v3, v4, M => XB_X9_layChances_53_7 (XL_X9_layChances_53_9 (XB_X9_layChances_53_11 (XL_X9_layChances_53_12 (XB_X9_layChances_53_23 (XL_X9_layChances_53_24 (XB_X9_layChances_53_26 (XL_X9_layChances_53_7 k27 n)) 1000)) 1000)) 1000) k27 v1 v2 v3 v4 M
theorem ls_X9_layChances_53_7 {x : Int} {M' : am_M} {k27 : am_M → am_Rs} (hk27 : ∀ M, k27 M = some (x, M') → am_R none 242 bk_X9_layChances 27 (am_wr [0, 0, 0, 0, 0, 0, 0, 0, 0] []) [] SH M (am_rv (am_rk 242) x) SH M') : ∀ (n : Nat) (v1 v2 v3 v4 : Int) (M : am_M), XL_X9_layChances_53_7 k27 n v1 v2 v3 v4 M = some (x, M') → am_R none 242 bk_X9_layChances 7 (am_wr [56, 1, 1, 1, 1, 0, 0, 0, 0] [v1, v2, v3, v4]) [] SH M (am_rv (am_rk 242) x) SH M'
  | 0, v1, v2, v3, v4, M, h => by cases h
  | n + 1, v1, v2, v3, v4, M, h => rs_X9_layChances_53_7 (ls_X9_layChances_53_9 (rs_X9_layChances_53_11 (ls_X9_layChances_53_12 (rs_X9_layChances_53_23 (ls_X9_layChances_53_24 (rs_X9_layChances_53_26 (ls_X9_layChances_53_7 hk27 n)) 1000)) 1000)) 1000) hk27 v1 v2 v3 v4 M h
noncomputable def X_X9_layChances_53 (v1 v2 v3 : Int) (M : am_M) : am_Rs := XB_X9_layChances_53_e (XL_X9_layChances_53_1 (XB_X9_layChances_53_6 (XL_X9_layChances_53_7 (XB_X9_layChances_53_27) 1000)) 1000) v1 v2 v3 M
theorem dc_X9_layChances_53 (v1 v2 v3 : Int) (M M' : am_M) (x : Int) (h : X_X9_layChances_53 v1 v2 v3 M = some (x, M')) : am_Calls 242 [.inr (.inr (some 53)), .inl v1, .inl v2, .inl v3] SH M (am_rv (am_rk 242) x) SH M' :=
  am_enter pn_X9_layChances ml_X9_layChances rfl (Nat.le_of_ble_eq_true rfl) ⟨Nat.le_refl _, Nat.le_refl _⟩ (rs_X9_layChances_53_e (ls_X9_layChances_53_1 (rs_X9_layChances_53_6 (ls_X9_layChances_53_7 (rs_X9_layChances_53_27) 1000)) 1000) v1 v2 v3 M h)
noncomputable def X_X9_sixteen (v0 : Int) (M : am_M) : am_Rs :=
  some (b_lshl_ 1 (4 * v0), M)
set_option maxRecDepth 100000 in
theorem dc_X9_sixteen (v0 : Int) (M M' : am_M) (x : Int) (h : X_X9_sixteen v0 M = some (x, M')) : am_Calls 243 [.inl v0] SH M (am_rv (am_rk 243) x) SH M' :=
  vCall (F := F_none) (C := fun _ _ _ _ => none) (fu := 3) ok_X9_sixteen pn_X9_sixteen ml_X9_sixteen rfl (Nat.le_of_ble_eq_true rfl) fs_none (fun _ _ _ _ h => by cases h) h
noncomputable def XB_X9_tellParts_53_1 (c1 : Int → Int → Int → Int → am_M → am_Rs) (c3 : Int → Int → Int → am_M → am_Rs) (v1 v3 v5 v7 : Int) (M : am_M) : am_Rs :=
  if wI (c_lcmp v7 0) = 0 then
   c3 v1 v3 v5 M
  else if wL v7 ≠ 0 then
  c1 v1 v3 v7 ((wL v5).tmod (wL v7)) M
  else none
set_option maxRecDepth 100000 in
theorem rs_X9_tellParts_53_1 {x : Int} {M' : am_M} {c1 : Int → Int → Int → Int → am_M → am_Rs} {c3 : Int → Int → Int → am_M → am_Rs} (h1 : ∀ w1 w3 w5 w7 M, c1 w1 w3 w5 w7 M = some (x, M') → am_R none 236 bk_X9_tellParts 1 (am_wr [56, 2, 0, 2, 0, 2, 0, 2, 0, 0, 0] [w1, w3, w5, w7]) [] SH M (am_rv (am_rk 236) x) SH M') (h3 : ∀ w1 w3 w5 M, c3 w1 w3 w5 M = some (x, M') → am_R none 236 bk_X9_tellParts 3 (am_wr [56, 2, 0, 2, 0, 2, 0, 0, 0, 0, 0] [w1, w3, w5]) [] SH M (am_rv (am_rk 236) x) SH M') (v1 v3 v5 v7 : Int) (M : am_M) (h : XB_X9_tellParts_53_1 c1 c3 v1 v3 v5 v7 M = some (x, M')) : am_R none 236 bk_X9_tellParts 1 (am_wr [56, 2, 0, 2, 0, 2, 0, 2, 0, 0, 0] [v1, v3, v5, v7]) [] SH M (am_rv (am_rk 236) x) SH M' :=
  vRegion (sc := none) (sh := SH) (F := F_none) (k := 236) (bs := bk_X9_tellParts) (r := (x, M')) (C := fun t lv st M => if t = 1 then vCt [56, 2, 0, 2, 0, 2, 0, 2, 0, 0, 0] (un4 c1) lv st M else if t = 3 then vCt [56, 2, 0, 2, 0, 2, 0, 0, 0, 0, 0] (un3 c3) lv st M else none) ok_X9_tellParts fs_none (fun t lv st M h => by
    split at h
    · rename_i e; subst e; exact vCt_s (un4_s h1) h
    split at h
    · rename_i e; subst e; exact vCt_s (un3_s h3) h
    cases h) 6 1 (am_wr [56, 2, 0, 2, 0, 2, 0, 2, 0, 0, 0] [v1, v3, v5, v7]) [] M h
noncomputable def XB_X9_tellParts_53_3 (v1 v3 v5 : Int) (M : am_M) : am_Rs :=
  if wL v5 ≠ 0 then
  if wL v5 ≠ 0 then
   some (1, (am_up (am_up M 53 9 ((wL v1).tdiv (wL v5))) 53 10 ((wL v3).tdiv (wL v5))))
   else none
  else none
set_option maxRecDepth 100000 in
theorem rs_X9_tellParts_53_3 {x : Int} {M' : am_M} (v1 v3 v5 : Int) (M : am_M) (h : XB_X9_tellParts_53_3 v1 v3 v5 M = some (x, M')) : am_R none 236 bk_X9_tellParts 3 (am_wr [56, 2, 0, 2, 0, 2, 0, 0, 0, 0, 0] [v1, v3, v5]) [] SH M (am_rv (am_rk 236) x) SH M' :=
  vRegion (sc := none) (sh := SH) (F := F_none) (k := 236) (bs := bk_X9_tellParts) (r := (x, M')) (C := fun t lv st M => none) ok_X9_tellParts fs_none (fun t lv st M h => by
    cases h) 6 3 (am_wr [56, 2, 0, 2, 0, 2, 0, 0, 0, 0, 0] [v1, v3, v5]) [] M h
noncomputable def XB_X9_tellParts_53_e (c1 : Int → Int → Int → Int → am_M → am_Rs) (v1 v3 : Int) (M : am_M) : am_Rs :=
  c1 v1 v3 v1 v3 M
set_option maxRecDepth 100000 in
theorem rs_X9_tellParts_53_e {x : Int} {M' : am_M} {c1 : Int → Int → Int → Int → am_M → am_Rs} (h1 : ∀ w1 w3 w5 w7 M, c1 w1 w3 w5 w7 M = some (x, M') → am_R none 236 bk_X9_tellParts 1 (am_wr [56, 2, 0, 2, 0, 2, 0, 2, 0, 0, 0] [w1, w3, w5, w7]) [] SH M (am_rv (am_rk 236) x) SH M') (v1 v3 : Int) (M : am_M) (h : XB_X9_tellParts_53_e c1 v1 v3 M = some (x, M')) : am_R none 236 bk_X9_tellParts 0 (am_ent 11 [.inr (.inr (some 53)), .inr (.inl v1), .inr (.inl v3)]) [] SH M (am_rv (am_rk 236) x) SH M' :=
  vRegion (sc := none) (sh := SH) (F := F_none) (k := 236) (bs := bk_X9_tellParts) (r := (x, M')) (C := fun t lv st M => if t = 1 then vCt [56, 2, 0, 2, 0, 2, 0, 2, 0, 0, 0] (un4 c1) lv st M else none) ok_X9_tellParts fs_none (fun t lv st M h => by
    split at h
    · rename_i e; subst e; exact vCt_s (un4_s h1) h
    cases h) 6 0 (am_ent 11 [.inr (.inr (some 53)), .inr (.inl v1), .inr (.inl v3)]) [] M h
noncomputable def XL_X9_tellParts_53_1 (k3 : Int → Int → Int → am_M → am_Rs) : Nat → Int → Int → Int → Int → am_M → am_Rs
  | 0, _, _, _, _, _ => none
  | n + 1, v1, v3, v5, v7, M => XB_X9_tellParts_53_1 (XL_X9_tellParts_53_1 k3 n) k3 v1 v3 v5 v7 M
theorem ls_X9_tellParts_53_1 {x : Int} {M' : am_M} {k3 : Int → Int → Int → am_M → am_Rs} (hk3 : ∀ w1 w3 w5 M, k3 w1 w3 w5 M = some (x, M') → am_R none 236 bk_X9_tellParts 3 (am_wr [56, 2, 0, 2, 0, 2, 0, 0, 0, 0, 0] [w1, w3, w5]) [] SH M (am_rv (am_rk 236) x) SH M') : ∀ (n : Nat) (v1 v3 v5 v7 : Int) (M : am_M), XL_X9_tellParts_53_1 k3 n v1 v3 v5 v7 M = some (x, M') → am_R none 236 bk_X9_tellParts 1 (am_wr [56, 2, 0, 2, 0, 2, 0, 2, 0, 0, 0] [v1, v3, v5, v7]) [] SH M (am_rv (am_rk 236) x) SH M'
  | 0, v1, v3, v5, v7, M, h => by cases h
  | n + 1, v1, v3, v5, v7, M, h => rs_X9_tellParts_53_1 (ls_X9_tellParts_53_1 hk3 n) hk3 v1 v3 v5 v7 M h
noncomputable def X_X9_tellParts_53 (v1 v3 : Int) (M : am_M) : am_Rs := XB_X9_tellParts_53_e (XL_X9_tellParts_53_1 (XB_X9_tellParts_53_3) 1000) v1 v3 M
theorem dc_X9_tellParts_53 (v1 v3 : Int) (M M' : am_M) (x : Int) (h : X_X9_tellParts_53 v1 v3 M = some (x, M')) : am_Calls 236 [.inr (.inr (some 53)), .inr (.inl v1), .inr (.inl v3)] SH M (am_rv (am_rk 236) x) SH M' :=
  am_enter pn_X9_tellParts ml_X9_tellParts rfl (Nat.le_of_ble_eq_true rfl) ⟨Nat.le_refl _, Nat.le_refl _⟩ (rs_X9_tellParts_53_e (ls_X9_tellParts_53_1 (rs_X9_tellParts_53_3) 1000) v1 v3 M h)
noncomputable def F_X9_odds_53 : Nat → List am_V → am_M → am_Rs := fun k as M => if k = 168 then (match as with
  | [.inr (.inl a0), .inr (.inl a2), .inr (.inl a4)] => X_X9_in a0 a2 a4 M
  | _ => none) else if k = 217 then (match as with
  | [.inr (.inr (some 53)), .inl a1] => X_X9_isPlace_53 a1 M
  | _ => none) else if k = 236 then (match as with
  | [.inr (.inr (some 53)), .inr (.inl a1), .inr (.inl a3)] => X_X9_tellParts_53 a1 a3 M
  | _ => none) else if k = 242 then (match as with
  | [.inr (.inr (some 53)), .inl a1, .inl a2, .inl a3] => X_X9_layChances_53 a1 a2 a3 M
  | _ => none) else if k = 243 then (match as with
  | [.inl a0] => X_X9_sixteen a0 M
  | _ => none) else none
theorem fs_X9_odds_53 : am_FS SH F_X9_odds_53 := by
  intro k as M x M' h
  unfold F_X9_odds_53 at h
  split at h
  · rename_i hk; subst hk
    split at h
    · exact dc_X9_in _ _ _ _ _ _ h
    · cases h
  split at h
  · rename_i hk; subst hk
    split at h
    · exact dc_X9_isPlace_53 _ _ _ _ h
    · cases h
  split at h
  · rename_i hk; subst hk
    split at h
    · exact dc_X9_tellParts_53 _ _ _ _ _ h
    · cases h
  split at h
  · rename_i hk; subst hk
    split at h
    · exact dc_X9_layChances_53 _ _ _ _ _ _ h
    · cases h
  split at h
  · rename_i hk; subst hk
    split at h
    · exact dc_X9_sixteen _ _ _ _ h
    · cases h
  cases h
noncomputable def X_X9_odds_53 (v1 v2 : Int) (M : am_M) : am_Rs :=
  (X_X9_isPlace_53 v1 M).bind fun z1 =>
  if wI z1.1 = 0 then
   some ((-1), z1.2)
  else (X_X9_in (wI v2) 0 6 z1.2).bind fun z2 =>
  if wI z2.1 = 0 then
   some ((-1), z2.2)
  else if wI (z2.2 53 1) = 0 then
   some ((-4), z2.2)
  else (X_X9_layChances_53 v2 (-1) (-1) z2.2).bind fun z3 =>
  if 0 ≤ wI v1 ∧ wI v1 < 13 then
  (X_X9_sixteen v2 z3.2).bind fun z4 =>
   (X_X9_tellParts_53 (z3.2 66 (wI v1).toNat) z4.1 z4.2).bind fun z5 =>
   some (z5.1, z5.2)
  else none
set_option maxRecDepth 100000 in
theorem dc_X9_odds_53 (v1 v2 : Int) (M M' : am_M) (x : Int) (h : X_X9_odds_53 v1 v2 M = some (x, M')) : am_Calls 244 [.inr (.inr (some 53)), .inl v1, .inl v2] SH M (am_rv (am_rk 244) x) SH M' :=
  vCall (F := F_X9_odds_53) (C := fun _ _ _ _ => none) (fu := 8) ok_X9_odds pn_X9_odds ml_X9_odds rfl (Nat.le_of_ble_eq_true rfl) fs_X9_odds_53 (fun _ _ _ _ h => by cases h) h
noncomputable def F_X9_met_53 : Nat → List am_V → am_M → am_Rs := fun k as M => if k = 168 then (match as with
  | [.inr (.inl a0), .inr (.inl a2), .inr (.inl a4)] => X_X9_in a0 a2 a4 M
  | _ => none) else if k = 217 then (match as with
  | [.inr (.inr (some 53)), .inl a1] => X_X9_isPlace_53 a1 M
  | _ => none) else if k = 236 then (match as with
  | [.inr (.inr (some 53)), .inr (.inl a1), .inr (.inl a3)] => X_X9_tellParts_53 a1 a3 M
  | _ => none) else if k = 242 then (match as with
  | [.inr (.inr (some 53)), .inl a1, .inl a2, .inl a3] => X_X9_layChances_53 a1 a2 a3 M
  | _ => none) else if k = 243 then (match as with
  | [.inl a0] => X_X9_sixteen a0 M
  | _ => none) else none
theorem fs_X9_met_53 : am_FS SH F_X9_met_53 := by
  intro k as M x M' h
  unfold F_X9_met_53 at h
  split at h
  · rename_i hk; subst hk
    split at h
    · exact dc_X9_in _ _ _ _ _ _ h
    · cases h
  split at h
  · rename_i hk; subst hk
    split at h
    · exact dc_X9_isPlace_53 _ _ _ _ h
    · cases h
  split at h
  · rename_i hk; subst hk
    split at h
    · exact dc_X9_tellParts_53 _ _ _ _ _ h
    · cases h
  split at h
  · rename_i hk; subst hk
    split at h
    · exact dc_X9_layChances_53 _ _ _ _ _ _ h
    · cases h
  split at h
  · rename_i hk; subst hk
    split at h
    · exact dc_X9_sixteen _ _ _ _ h
    · cases h
  cases h
noncomputable def X_X9_met_53 (v1 v2 : Int) (M : am_M) : am_Rs :=
  (X_X9_isPlace_53 v1 M).bind fun z1 =>
  if wI z1.1 = 0 then
   some ((-1), z1.2)
  else (X_X9_in (wI v2) 0 6 z1.2).bind fun z2 =>
  if wI z2.1 = 0 then
   some ((-1), z2.2)
  else if wI (z2.2 53 1) = 0 then
   some ((-4), z2.2)
  else (X_X9_layChances_53 v2 v1 (-1) z2.2).bind fun z3 =>
  if 0 ≤ wI v1 ∧ wI v1 < 13 then
  (X_X9_sixteen v2 z3.2).bind fun z4 =>
   (X_X9_tellParts_53 (z3.2 66 (wI v1).toNat) z4.1 z4.2).bind fun z5 =>
   some (z5.1, z5.2)
  else none
set_option maxRecDepth 100000 in
theorem dc_X9_met_53 (v1 v2 : Int) (M M' : am_M) (x : Int) (h : X_X9_met_53 v1 v2 M = some (x, M')) : am_Calls 245 [.inr (.inr (some 53)), .inl v1, .inl v2] SH M (am_rv (am_rk 245) x) SH M' :=
  vCall (F := F_X9_met_53) (C := fun _ _ _ _ => none) (fu := 8) ok_X9_met pn_X9_met ml_X9_met rfl (Nat.le_of_ble_eq_true rfl) fs_X9_met_53 (fun _ _ _ _ h => by cases h) h
noncomputable def F_X9_hedge_53 : Nat → List am_V → am_M → am_Rs := fun k as M => if k = 168 then (match as with
  | [.inr (.inl a0), .inr (.inl a2), .inr (.inl a4)] => X_X9_in a0 a2 a4 M
  | _ => none) else if k = 194 then (match as with
  | [.inr (.inr (some 53)), .inl a1] => X_X9_isStrip_53 a1 M
  | _ => none) else if k = 236 then (match as with
  | [.inr (.inr (some 53)), .inr (.inl a1), .inr (.inl a3)] => X_X9_tellParts_53 a1 a3 M
  | _ => none) else if k = 242 then (match as with
  | [.inr (.inr (some 53)), .inl a1, .inl a2, .inl a3] => X_X9_layChances_53 a1 a2 a3 M
  | _ => none) else if k = 243 then (match as with
  | [.inl a0] => X_X9_sixteen a0 M
  | _ => none) else none
theorem fs_X9_hedge_53 : am_FS SH F_X9_hedge_53 := by
  intro k as M x M' h
  unfold F_X9_hedge_53 at h
  split at h
  · rename_i hk; subst hk
    split at h
    · exact dc_X9_in _ _ _ _ _ _ h
    · cases h
  split at h
  · rename_i hk; subst hk
    split at h
    · exact dc_X9_isStrip_53 _ _ _ _ h
    · cases h
  split at h
  · rename_i hk; subst hk
    split at h
    · exact dc_X9_tellParts_53 _ _ _ _ _ h
    · cases h
  split at h
  · rename_i hk; subst hk
    split at h
    · exact dc_X9_layChances_53 _ _ _ _ _ _ h
    · cases h
  split at h
  · rename_i hk; subst hk
    split at h
    · exact dc_X9_sixteen _ _ _ _ h
    · cases h
  cases h
noncomputable def X_X9_hedge_53 (v1 v2 : Int) (M : am_M) : am_Rs :=
  (X_X9_isStrip_53 v1 M).bind fun z1 =>
  if wI z1.1 = 0 then
   some ((-1), z1.2)
  else (X_X9_in (wI v2) 0 6 z1.2).bind fun z2 =>
  if wI z2.1 = 0 then
   some ((-1), z2.2)
  else (X_X9_layChances_53 v2 (-1) v1 z2.2).bind fun z3 =>
  (X_X9_sixteen v2 z3.2).bind fun z4 =>
  (X_X9_tellParts_53 (z3.2 53 27) z4.1 z4.2).bind fun z5 =>
  some (z5.1, z5.2)
set_option maxRecDepth 100000 in
theorem dc_X9_hedge_53 (v1 v2 : Int) (M M' : am_M) (x : Int) (h : X_X9_hedge_53 v1 v2 M = some (x, M')) : am_Calls 246 [.inr (.inr (some 53)), .inl v1, .inl v2] SH M (am_rv (am_rk 246) x) SH M' :=
  vCall (F := F_X9_hedge_53) (C := fun _ _ _ _ => none) (fu := 6) ok_X9_hedge pn_X9_hedge ml_X9_hedge rfl (Nat.le_of_ble_eq_true rfl) fs_X9_hedge_53 (fun _ _ _ _ h => by cases h) h
noncomputable def F_X9_isGame : Nat → List am_V → am_M → am_Rs := fun k as M => if k = 168 then (match as with
  | [.inr (.inl a0), .inr (.inl a2), .inr (.inl a4)] => X_X9_in a0 a2 a4 M
  | _ => none) else none
theorem fs_X9_isGame : am_FS SH F_X9_isGame := by
  intro k as M x M' h
  unfold F_X9_isGame at h
  split at h
  · rename_i hk; subst hk
    split at h
    · exact dc_X9_in _ _ _ _ _ _ h
    · cases h
  cases h
noncomputable def X_X9_isGame (v0 v1 v2 : Int) (M : am_M) : am_Rs :=
  (X_X9_in (wI v0) (wI v2) 4 M).bind fun z1 =>
  if wI z1.1 = 0 then
   some (0, z1.2)
  else (X_X9_in (wI v1) 0 9 z1.2).bind fun z2 =>
  if wI z2.1 = 0 then
   some (0, z2.2)
  else some (1, z2.2)
set_option maxRecDepth 100000 in
theorem dc_X9_isGame (v0 v1 v2 : Int) (M M' : am_M) (x : Int) (h : X_X9_isGame v0 v1 v2 M = some (x, M')) : am_Calls 252 [.inl v0, .inl v1, .inl v2] SH M (am_rv (am_rk 252) x) SH M' :=
  vCall (F := F_X9_isGame) (C := fun _ _ _ _ => none) (fu := 7) ok_X9_isGame pn_X9_isGame ml_X9_isGame rfl (Nat.le_of_ble_eq_true rfl) fs_X9_isGame (fun _ _ _ _ h => by cases h) h
noncomputable def F_X9_gameBy_53 : Nat → List am_V → am_M → am_Rs := fun k as M => if k = 196 then (match as with
  | [.inr (.inr (some 53)), .inl a1, .inl a2, .inl a3, .inl a4] => X_X9_behind_53 a1 a2 a3 a4 M
  | _ => none) else none
theorem fs_X9_gameBy_53 : am_FS SH F_X9_gameBy_53 := by
  intro k as M x M' h
  unfold F_X9_gameBy_53 at h
  split at h
  · rename_i hk; subst hk
    split at h
    · exact dc_X9_behind_53 _ _ _ _ _ _ _ h
    · cases h
  cases h
noncomputable def X_X9_gameBy_53 (v1 v2 v3 v4 : Int) (M : am_M) : am_Rs :=
  (X_X9_behind_53 v2 ((M 54 0) + v1) v3 v4 M).bind fun z1 =>
  if 0 ≤ wI ((13 * (v1 + 1)) + z1.1) ∧ wI ((13 * (v1 + 1)) + z1.1) < 65 then
  some (((z1.2 53 30) * (v3 - v4)) + (z1.2 68 (wI ((13 * (v1 + 1)) + z1.1)).toNat), z1.2)
  else none
set_option maxRecDepth 100000 in
theorem dc_X9_gameBy_53 (v1 v2 v3 v4 : Int) (M M' : am_M) (x : Int) (h : X_X9_gameBy_53 v1 v2 v3 v4 M = some (x, M')) : am_Calls 247 [.inr (.inr (some 53)), .inl v1, .inl v2, .inl v3, .inl v4] SH M (am_rv (am_rk 247) x) SH M' :=
  vCall (F := F_X9_gameBy_53) (C := fun _ _ _ _ => none) (fu := 3) ok_X9_gameBy pn_X9_gameBy ml_X9_gameBy rfl (Nat.le_of_ble_eq_true rfl) fs_X9_gameBy_53 (fun _ _ _ _ h => by cases h) h
noncomputable def F_X9_answerTo_53 : Nat → List am_V → am_M → am_Rs := fun k as M => if k = 247 then (match as with
  | [.inr (.inr (some 53)), .inl a1, .inl a2, .inl a3, .inl a4] => X_X9_gameBy_53 a1 a2 a3 a4 M
  | _ => none) else none
theorem fs_X9_answerTo_53 : am_FS SH F_X9_answerTo_53 := by
  intro k as M x M' h
  unfold F_X9_answerTo_53 at h
  split at h
  · rename_i hk; subst hk
    split at h
    · exact dc_X9_gameBy_53 _ _ _ _ _ _ _ h
    · cases h
  cases h
noncomputable def XB_X9_answerTo_53_1 (c1 : Int → Int → Int → Int → Int → am_M → am_Rs) (c6 : Int → am_M → am_Rs) (v1 v2 v3 v4 v5 : Int) (M : am_M) : am_Rs :=
  if wI v5 < 4 then
   (X_X9_gameBy_53 v1 v2 v3 v5 M).bind fun z1 =>
   (X_X9_gameBy_53 v1 v2 v3 v4 z1.2).bind fun z2 =>
   if wI z1.1 < wI z2.1 then
    c1 v1 v2 v3 v5 (v5 + 1) z2.2
   else c1 v1 v2 v3 v4 (v5 + 1) z2.2
  else c6 v4 M
set_option maxRecDepth 100000 in
theorem rs_X9_answerTo_53_1 {x : Int} {M' : am_M} {c1 : Int → Int → Int → Int → Int → am_M → am_Rs} {c6 : Int → am_M → am_Rs} (h1 : ∀ w1 w2 w3 w4 w5 M, c1 w1 w2 w3 w4 w5 M = some (x, M') → am_R none 248 bk_X9_answerTo 1 (am_wr [56, 1, 1, 1, 1, 1] [w1, w2, w3, w4, w5]) [] SH M (am_rv (am_rk 248) x) SH M') (h6 : ∀ w4 M, c6 w4 M = some (x, M') → am_R none 248 bk_X9_answerTo 6 (am_wr [0, 0, 0, 0, 1, 0] [w4]) [] SH M (am_rv (am_rk 248) x) SH M') (v1 v2 v3 v4 v5 : Int) (M : am_M) (h : XB_X9_answerTo_53_1 c1 c6 v1 v2 v3 v4 v5 M = some (x, M')) : am_R none 248 bk_X9_answerTo 1 (am_wr [56, 1, 1, 1, 1, 1] [v1, v2, v3, v4, v5]) [] SH M (am_rv (am_rk 248) x) SH M' :=
  vRegion (sc := none) (sh := SH) (F := F_X9_answerTo_53) (k := 248) (bs := bk_X9_answerTo) (r := (x, M')) (C := fun t lv st M => if t = 1 then vCt [56, 1, 1, 1, 1, 1] (un5 c1) lv st M else if t = 6 then vCt [0, 0, 0, 0, 1, 0] (un1 c6) lv st M else none) ok_X9_answerTo fs_X9_answerTo_53 (fun t lv st M h => by
    split at h
    · rename_i e; subst e; exact vCt_s (un5_s h1) h
    split at h
    · rename_i e; subst e; exact vCt_s (un1_s h6) h
    cases h) 9 1 (am_wr [56, 1, 1, 1, 1, 1] [v1, v2, v3, v4, v5]) [] M h
noncomputable def XB_X9_answerTo_53_6 (v4 : Int) (M : am_M) : am_Rs :=
  some (v4, M)
set_option maxRecDepth 100000 in
theorem rs_X9_answerTo_53_6 {x : Int} {M' : am_M} (v4 : Int) (M : am_M) (h : XB_X9_answerTo_53_6 v4 M = some (x, M')) : am_R none 248 bk_X9_answerTo 6 (am_wr [0, 0, 0, 0, 1, 0] [v4]) [] SH M (am_rv (am_rk 248) x) SH M' :=
  vRegion (sc := none) (sh := SH) (F := F_X9_answerTo_53) (k := 248) (bs := bk_X9_answerTo) (r := (x, M')) (C := fun t lv st M => none) ok_X9_answerTo fs_X9_answerTo_53 (fun t lv st M h => by
    cases h) 9 6 (am_wr [0, 0, 0, 0, 1, 0] [v4]) [] M h
noncomputable def XB_X9_answerTo_53_e (c1 : Int → Int → Int → Int → Int → am_M → am_Rs) (v1 v2 v3 : Int) (M : am_M) : am_Rs :=
  c1 v1 v2 v3 0 1 M
set_option maxRecDepth 100000 in
theorem rs_X9_answerTo_53_e {x : Int} {M' : am_M} {c1 : Int → Int → Int → Int → Int → am_M → am_Rs} (h1 : ∀ w1 w2 w3 w4 w5 M, c1 w1 w2 w3 w4 w5 M = some (x, M') → am_R none 248 bk_X9_answerTo 1 (am_wr [56, 1, 1, 1, 1, 1] [w1, w2, w3, w4, w5]) [] SH M (am_rv (am_rk 248) x) SH M') (v1 v2 v3 : Int) (M : am_M) (h : XB_X9_answerTo_53_e c1 v1 v2 v3 M = some (x, M')) : am_R none 248 bk_X9_answerTo 0 (am_ent 6 [.inr (.inr (some 53)), .inl v1, .inl v2, .inl v3]) [] SH M (am_rv (am_rk 248) x) SH M' :=
  vRegion (sc := none) (sh := SH) (F := F_X9_answerTo_53) (k := 248) (bs := bk_X9_answerTo) (r := (x, M')) (C := fun t lv st M => if t = 1 then vCt [56, 1, 1, 1, 1, 1] (un5 c1) lv st M else none) ok_X9_answerTo fs_X9_answerTo_53 (fun t lv st M h => by
    split at h
    · rename_i e; subst e; exact vCt_s (un5_s h1) h
    cases h) 9 0 (am_ent 6 [.inr (.inr (some 53)), .inl v1, .inl v2, .inl v3]) [] M h
noncomputable def XL_X9_answerTo_53_1 (k6 : Int → am_M → am_Rs) : Nat → Int → Int → Int → Int → Int → am_M → am_Rs
  | 0, _, _, _, _, _, _ => none
  | n + 1, v1, v2, v3, v4, v5, M => XB_X9_answerTo_53_1 (XL_X9_answerTo_53_1 k6 n) k6 v1 v2 v3 v4 v5 M
theorem ls_X9_answerTo_53_1 {x : Int} {M' : am_M} {k6 : Int → am_M → am_Rs} (hk6 : ∀ w4 M, k6 w4 M = some (x, M') → am_R none 248 bk_X9_answerTo 6 (am_wr [0, 0, 0, 0, 1, 0] [w4]) [] SH M (am_rv (am_rk 248) x) SH M') : ∀ (n : Nat) (v1 v2 v3 v4 v5 : Int) (M : am_M), XL_X9_answerTo_53_1 k6 n v1 v2 v3 v4 v5 M = some (x, M') → am_R none 248 bk_X9_answerTo 1 (am_wr [56, 1, 1, 1, 1, 1] [v1, v2, v3, v4, v5]) [] SH M (am_rv (am_rk 248) x) SH M'
  | 0, v1, v2, v3, v4, v5, M, h => by cases h
  | n + 1, v1, v2, v3, v4, v5, M, h => rs_X9_answerTo_53_1 (ls_X9_answerTo_53_1 hk6 n) hk6 v1 v2 v3 v4 v5 M h
noncomputable def X_X9_answerTo_53 (v1 v2 v3 : Int) (M : am_M) : am_Rs := XB_X9_answerTo_53_e (XL_X9_answerTo_53_1 (XB_X9_answerTo_53_6) 1000) v1 v2 v3 M
theorem dc_X9_answerTo_53 (v1 v2 v3 : Int) (M M' : am_M) (x : Int) (h : X_X9_answerTo_53 v1 v2 v3 M = some (x, M')) : am_Calls 248 [.inr (.inr (some 53)), .inl v1, .inl v2, .inl v3] SH M (am_rv (am_rk 248) x) SH M' :=
  am_enter pn_X9_answerTo ml_X9_answerTo rfl (Nat.le_of_ble_eq_true rfl) ⟨Nat.le_refl _, Nat.le_refl _⟩ (rs_X9_answerTo_53_e (ls_X9_answerTo_53_1 (rs_X9_answerTo_53_6) 1000) v1 v2 v3 M h)
noncomputable def F_X9_valueOf_53 : Nat → List am_V → am_M → am_Rs := fun k as M => if k = 247 then (match as with
  | [.inr (.inr (some 53)), .inl a1, .inl a2, .inl a3, .inl a4] => X_X9_gameBy_53 a1 a2 a3 a4 M
  | _ => none) else if k = 248 then (match as with
  | [.inr (.inr (some 53)), .inl a1, .inl a2, .inl a3] => X_X9_answerTo_53 a1 a2 a3 M
  | _ => none) else none
theorem fs_X9_valueOf_53 : am_FS SH F_X9_valueOf_53 := by
  intro k as M x M' h
  unfold F_X9_valueOf_53 at h
  split at h
  · rename_i hk; subst hk
    split at h
    · exact dc_X9_gameBy_53 _ _ _ _ _ _ _ h
    · cases h
  split at h
  · rename_i hk; subst hk
    split at h
    · exact dc_X9_answerTo_53 _ _ _ _ _ _ h
    · cases h
  cases h
noncomputable def X_X9_valueOf_53 (v1 v2 v3 : Int) (M : am_M) : am_Rs :=
  (X_X9_answerTo_53 v1 v2 v3 M).bind fun z1 =>
  (X_X9_gameBy_53 v1 v2 v3 z1.1 z1.2).bind fun z2 =>
  some (z2.1, z2.2)
set_option maxRecDepth 100000 in
theorem dc_X9_valueOf_53 (v1 v2 v3 : Int) (M M' : am_M) (x : Int) (h : X_X9_valueOf_53 v1 v2 v3 M = some (x, M')) : am_Calls 249 [.inr (.inr (some 53)), .inl v1, .inl v2, .inl v3] SH M (am_rv (am_rk 249) x) SH M' :=
  vCall (F := F_X9_valueOf_53) (C := fun _ _ _ _ => none) (fu := 3) ok_X9_valueOf pn_X9_valueOf ml_X9_valueOf rfl (Nat.le_of_ble_eq_true rfl) fs_X9_valueOf_53 (fun _ _ _ _ h => by cases h) h
noncomputable def F_X9_firstTo_53 : Nat → List am_V → am_M → am_Rs := fun k as M => if k = 249 then (match as with
  | [.inr (.inr (some 53)), .inl a1, .inl a2, .inl a3] => X_X9_valueOf_53 a1 a2 a3 M
  | _ => none) else none
theorem fs_X9_firstTo_53 : am_FS SH F_X9_firstTo_53 := by
  intro k as M x M' h
  unfold F_X9_firstTo_53 at h
  split at h
  · rename_i hk; subst hk
    split at h
    · exact dc_X9_valueOf_53 _ _ _ _ _ _ h
    · cases h
  cases h
noncomputable def XB_X9_firstTo_53_1 (c1 : Int → Int → Int → Int → am_M → am_Rs) (c6 : Int → am_M → am_Rs) (v1 v2 v3 v4 : Int) (M : am_M) : am_Rs :=
  if wI v4 < 4 then
   (X_X9_valueOf_53 v1 v2 v4 M).bind fun z1 =>
   (X_X9_valueOf_53 v1 v2 v3 z1.2).bind fun z2 =>
   if wI z2.1 < wI z1.1 then
    c1 v1 v2 v4 (v4 + 1) z2.2
   else c1 v1 v2 v3 (v4 + 1) z2.2
  else c6 v3 M
set_option maxRecDepth 100000 in
theorem rs_X9_firstTo_53_1 {x : Int} {M' : am_M} {c1 : Int → Int → Int → Int → am_M → am_Rs} {c6 : Int → am_M → am_Rs} (h1 : ∀ w1 w2 w3 w4 M, c1 w1 w2 w3 w4 M = some (x, M') → am_R none 250 bk_X9_firstTo 1 (am_wr [56, 1, 1, 1, 1] [w1, w2, w3, w4]) [] SH M (am_rv (am_rk 250) x) SH M') (h6 : ∀ w3 M, c6 w3 M = some (x, M') → am_R none 250 bk_X9_firstTo 6 (am_wr [0, 0, 0, 1, 0] [w3]) [] SH M (am_rv (am_rk 250) x) SH M') (v1 v2 v3 v4 : Int) (M : am_M) (h : XB_X9_firstTo_53_1 c1 c6 v1 v2 v3 v4 M = some (x, M')) : am_R none 250 bk_X9_firstTo 1 (am_wr [56, 1, 1, 1, 1] [v1, v2, v3, v4]) [] SH M (am_rv (am_rk 250) x) SH M' :=
  vRegion (sc := none) (sh := SH) (F := F_X9_firstTo_53) (k := 250) (bs := bk_X9_firstTo) (r := (x, M')) (C := fun t lv st M => if t = 1 then vCt [56, 1, 1, 1, 1] (un4 c1) lv st M else if t = 6 then vCt [0, 0, 0, 1, 0] (un1 c6) lv st M else none) ok_X9_firstTo fs_X9_firstTo_53 (fun t lv st M h => by
    split at h
    · rename_i e; subst e; exact vCt_s (un4_s h1) h
    split at h
    · rename_i e; subst e; exact vCt_s (un1_s h6) h
    cases h) 9 1 (am_wr [56, 1, 1, 1, 1] [v1, v2, v3, v4]) [] M h
noncomputable def XB_X9_firstTo_53_6 (v3 : Int) (M : am_M) : am_Rs :=
  some (v3, M)
set_option maxRecDepth 100000 in
theorem rs_X9_firstTo_53_6 {x : Int} {M' : am_M} (v3 : Int) (M : am_M) (h : XB_X9_firstTo_53_6 v3 M = some (x, M')) : am_R none 250 bk_X9_firstTo 6 (am_wr [0, 0, 0, 1, 0] [v3]) [] SH M (am_rv (am_rk 250) x) SH M' :=
  vRegion (sc := none) (sh := SH) (F := F_X9_firstTo_53) (k := 250) (bs := bk_X9_firstTo) (r := (x, M')) (C := fun t lv st M => none) ok_X9_firstTo fs_X9_firstTo_53 (fun t lv st M h => by
    cases h) 9 6 (am_wr [0, 0, 0, 1, 0] [v3]) [] M h
noncomputable def XB_X9_firstTo_53_e (c1 : Int → Int → Int → Int → am_M → am_Rs) (v1 v2 : Int) (M : am_M) : am_Rs :=
  c1 v1 v2 0 1 M
set_option maxRecDepth 100000 in
theorem rs_X9_firstTo_53_e {x : Int} {M' : am_M} {c1 : Int → Int → Int → Int → am_M → am_Rs} (h1 : ∀ w1 w2 w3 w4 M, c1 w1 w2 w3 w4 M = some (x, M') → am_R none 250 bk_X9_firstTo 1 (am_wr [56, 1, 1, 1, 1] [w1, w2, w3, w4]) [] SH M (am_rv (am_rk 250) x) SH M') (v1 v2 : Int) (M : am_M) (h : XB_X9_firstTo_53_e c1 v1 v2 M = some (x, M')) : am_R none 250 bk_X9_firstTo 0 (am_ent 5 [.inr (.inr (some 53)), .inl v1, .inl v2]) [] SH M (am_rv (am_rk 250) x) SH M' :=
  vRegion (sc := none) (sh := SH) (F := F_X9_firstTo_53) (k := 250) (bs := bk_X9_firstTo) (r := (x, M')) (C := fun t lv st M => if t = 1 then vCt [56, 1, 1, 1, 1] (un4 c1) lv st M else none) ok_X9_firstTo fs_X9_firstTo_53 (fun t lv st M h => by
    split at h
    · rename_i e; subst e; exact vCt_s (un4_s h1) h
    cases h) 9 0 (am_ent 5 [.inr (.inr (some 53)), .inl v1, .inl v2]) [] M h
noncomputable def XL_X9_firstTo_53_1 (k6 : Int → am_M → am_Rs) : Nat → Int → Int → Int → Int → am_M → am_Rs
  | 0, _, _, _, _, _ => none
  | n + 1, v1, v2, v3, v4, M => XB_X9_firstTo_53_1 (XL_X9_firstTo_53_1 k6 n) k6 v1 v2 v3 v4 M
theorem ls_X9_firstTo_53_1 {x : Int} {M' : am_M} {k6 : Int → am_M → am_Rs} (hk6 : ∀ w3 M, k6 w3 M = some (x, M') → am_R none 250 bk_X9_firstTo 6 (am_wr [0, 0, 0, 1, 0] [w3]) [] SH M (am_rv (am_rk 250) x) SH M') : ∀ (n : Nat) (v1 v2 v3 v4 : Int) (M : am_M), XL_X9_firstTo_53_1 k6 n v1 v2 v3 v4 M = some (x, M') → am_R none 250 bk_X9_firstTo 1 (am_wr [56, 1, 1, 1, 1] [v1, v2, v3, v4]) [] SH M (am_rv (am_rk 250) x) SH M'
  | 0, v1, v2, v3, v4, M, h => by cases h
  | n + 1, v1, v2, v3, v4, M, h => rs_X9_firstTo_53_1 (ls_X9_firstTo_53_1 hk6 n) hk6 v1 v2 v3 v4 M h
noncomputable def X_X9_firstTo_53 (v1 v2 : Int) (M : am_M) : am_Rs := XB_X9_firstTo_53_e (XL_X9_firstTo_53_1 (XB_X9_firstTo_53_6) 1000) v1 v2 M
theorem dc_X9_firstTo_53 (v1 v2 : Int) (M M' : am_M) (x : Int) (h : X_X9_firstTo_53 v1 v2 M = some (x, M')) : am_Calls 250 [.inr (.inr (some 53)), .inl v1, .inl v2] SH M (am_rv (am_rk 250) x) SH M' :=
  am_enter pn_X9_firstTo ml_X9_firstTo rfl (Nat.le_of_ble_eq_true rfl) ⟨Nat.le_refl _, Nat.le_refl _⟩ (rs_X9_firstTo_53_e (ls_X9_firstTo_53_1 (rs_X9_firstTo_53_6) 1000) v1 v2 M h)
noncomputable def F_X9_layGames_53 : Nat → List am_V → am_M → am_Rs := fun k as M => if k = 249 then (match as with
  | [.inr (.inr (some 53)), .inl a1, .inl a2, .inl a3] => X_X9_valueOf_53 a1 a2 a3 M
  | _ => none) else if k = 250 then (match as with
  | [.inr (.inr (some 53)), .inl a1, .inl a2] => X_X9_firstTo_53 a1 a2 M
  | _ => none) else none
theorem fs_X9_layGames_53 : am_FS SH F_X9_layGames_53 := by
  intro k as M x M' h
  unfold F_X9_layGames_53 at h
  split at h
  · rename_i hk; subst hk
    split at h
    · exact dc_X9_valueOf_53 _ _ _ _ _ _ h
    · cases h
  split at h
  · rename_i hk; subst hk
    split at h
    · exact dc_X9_firstTo_53 _ _ _ _ _ h
    · cases h
  cases h
noncomputable def XB_X9_layGames_53_1 (c1 : Int → Int → am_M → am_Rs) (c3 : Int → am_M → am_Rs) (v1 v3 : Int) (M : am_M) : am_Rs :=
  if wI (M 53 1) < wI v3 then
   c3 v1 M
  else if 0 ≤ wI ((13 * v1) + v3) ∧ wI ((13 * v1) + v3) < 65 then
  c1 v1 (v3 + 1) (am_up M 68 (wI ((13 * v1) + v3)).toNat ((2 * v3) - (M 53 1)))
  else none
set_option maxRecDepth 100000 in
theorem rs_X9_layGames_53_1 {x : Int} {M' : am_M} {c1 : Int → Int → am_M → am_Rs} {c3 : Int → am_M → am_Rs} (h1 : ∀ w1 w3 M, c1 w1 w3 M = some (x, M') → am_R none 251 bk_X9_layGames 1 (am_wr [56, 1, 0, 1, 0] [w1, w3]) [] SH M (am_rv (am_rk 251) x) SH M') (h3 : ∀ w1 M, c3 w1 M = some (x, M') → am_R none 251 bk_X9_layGames 3 (am_wr [56, 1, 0, 0, 0] [w1]) [] SH M (am_rv (am_rk 251) x) SH M') (v1 v3 : Int) (M : am_M) (h : XB_X9_layGames_53_1 c1 c3 v1 v3 M = some (x, M')) : am_R none 251 bk_X9_layGames 1 (am_wr [56, 1, 0, 1, 0] [v1, v3]) [] SH M (am_rv (am_rk 251) x) SH M' :=
  vRegion (sc := none) (sh := SH) (F := F_X9_layGames_53) (k := 251) (bs := bk_X9_layGames) (r := (x, M')) (C := fun t lv st M => if t = 1 then vCt [56, 1, 0, 1, 0] (un2 c1) lv st M else if t = 3 then vCt [56, 1, 0, 0, 0] (un1 c3) lv st M else none) ok_X9_layGames fs_X9_layGames_53 (fun t lv st M h => by
    split at h
    · rename_i e; subst e; exact vCt_s (un2_s h1) h
    split at h
    · rename_i e; subst e; exact vCt_s (un1_s h3) h
    cases h) 12 1 (am_wr [56, 1, 0, 1, 0] [v1, v3]) [] M h
noncomputable def XB_X9_layGames_53_3 (c4 : Int → am_M → am_Rs) (v1 : Int) (M : am_M) : am_Rs :=
  c4 (v1 - 1) M
set_option maxRecDepth 100000 in
theorem rs_X9_layGames_53_3 {x : Int} {M' : am_M} {c4 : Int → am_M → am_Rs} (h4 : ∀ w3 M, c4 w3 M = some (x, M') → am_R none 251 bk_X9_layGames 4 (am_wr [56, 0, 0, 1, 0] [w3]) [] SH M (am_rv (am_rk 251) x) SH M') (v1 : Int) (M : am_M) (h : XB_X9_layGames_53_3 c4 v1 M = some (x, M')) : am_R none 251 bk_X9_layGames 3 (am_wr [56, 1, 0, 0, 0] [v1]) [] SH M (am_rv (am_rk 251) x) SH M' :=
  vRegion (sc := none) (sh := SH) (F := F_X9_layGames_53) (k := 251) (bs := bk_X9_layGames) (r := (x, M')) (C := fun t lv st M => if t = 4 then vCt [56, 0, 0, 1, 0] (un1 c4) lv st M else none) ok_X9_layGames fs_X9_layGames_53 (fun t lv st M h => by
    split at h
    · rename_i e; subst e; exact vCt_s (un1_s h4) h
    cases h) 12 3 (am_wr [56, 1, 0, 0, 0] [v1]) [] M h
noncomputable def XB_X9_layGames_53_4 (c6 : Int → Int → am_M → am_Rs) (c9 : am_M → am_Rs) (v3 : Int) (M : am_M) : am_Rs :=
  if wI v3 < 0 then
   c9 M
  else c6 v3 0 M
set_option maxRecDepth 100000 in
theorem rs_X9_layGames_53_4 {x : Int} {M' : am_M} {c6 : Int → Int → am_M → am_Rs} {c9 : am_M → am_Rs} (h6 : ∀ w3 w4 M, c6 w3 w4 M = some (x, M') → am_R none 251 bk_X9_layGames 6 (am_wr [56, 0, 0, 1, 1] [w3, w4]) [] SH M (am_rv (am_rk 251) x) SH M') (h9 : ∀ M, c9 M = some (x, M') → am_R none 251 bk_X9_layGames 9 (am_wr [0, 0, 0, 0, 0] []) [] SH M (am_rv (am_rk 251) x) SH M') (v3 : Int) (M : am_M) (h : XB_X9_layGames_53_4 c6 c9 v3 M = some (x, M')) : am_R none 251 bk_X9_layGames 4 (am_wr [56, 0, 0, 1, 0] [v3]) [] SH M (am_rv (am_rk 251) x) SH M' :=
  vRegion (sc := none) (sh := SH) (F := F_X9_layGames_53) (k := 251) (bs := bk_X9_layGames) (r := (x, M')) (C := fun t lv st M => if t = 6 then vCt [56, 0, 0, 1, 1] (un2 c6) lv st M else if t = 9 then vCt [0, 0, 0, 0, 0] (un0 c9) lv st M else none) ok_X9_layGames fs_X9_layGames_53 (fun t lv st M h => by
    split at h
    · rename_i e; subst e; exact vCt_s (un2_s h6) h
    split at h
    · rename_i e; subst e; exact vCt_s (un0_s h9) h
    cases h) 12 4 (am_wr [56, 0, 0, 1, 0] [v3]) [] M h
noncomputable def XB_X9_layGames_53_6 (c6 : Int → Int → am_M → am_Rs) (c8 : Int → am_M → am_Rs) (v3 v4 : Int) (M : am_M) : am_Rs :=
  if wI (M 53 1) < wI v4 then
   c8 v3 M
  else (X_X9_firstTo_53 v3 v4 M).bind fun z1 =>
  (X_X9_valueOf_53 v3 v4 z1.1 z1.2).bind fun z2 =>
  if 0 ≤ wI ((13 * v3) + v4) ∧ wI ((13 * v3) + v4) < 65 then
  c6 v3 (v4 + 1) (am_up z2.2 68 (wI ((13 * v3) + v4)).toNat z2.1)
  else none
set_option maxRecDepth 100000 in
theorem rs_X9_layGames_53_6 {x : Int} {M' : am_M} {c6 : Int → Int → am_M → am_Rs} {c8 : Int → am_M → am_Rs} (h6 : ∀ w3 w4 M, c6 w3 w4 M = some (x, M') → am_R none 251 bk_X9_layGames 6 (am_wr [56, 0, 0, 1, 1] [w3, w4]) [] SH M (am_rv (am_rk 251) x) SH M') (h8 : ∀ w3 M, c8 w3 M = some (x, M') → am_R none 251 bk_X9_layGames 8 (am_wr [56, 0, 0, 1, 0] [w3]) [] SH M (am_rv (am_rk 251) x) SH M') (v3 v4 : Int) (M : am_M) (h : XB_X9_layGames_53_6 c6 c8 v3 v4 M = some (x, M')) : am_R none 251 bk_X9_layGames 6 (am_wr [56, 0, 0, 1, 1] [v3, v4]) [] SH M (am_rv (am_rk 251) x) SH M' :=
  vRegion (sc := none) (sh := SH) (F := F_X9_layGames_53) (k := 251) (bs := bk_X9_layGames) (r := (x, M')) (C := fun t lv st M => if t = 6 then vCt [56, 0, 0, 1, 1] (un2 c6) lv st M else if t = 8 then vCt [56, 0, 0, 1, 0] (un1 c8) lv st M else none) ok_X9_layGames fs_X9_layGames_53 (fun t lv st M h => by
    split at h
    · rename_i e; subst e; exact vCt_s (un2_s h6) h
    split at h
    · rename_i e; subst e; exact vCt_s (un1_s h8) h
    cases h) 12 6 (am_wr [56, 0, 0, 1, 1] [v3, v4]) [] M h
noncomputable def XB_X9_layGames_53_9 (M : am_M) : am_Rs :=
  some (0, M)
set_option maxRecDepth 100000 in
theorem rs_X9_layGames_53_9 {x : Int} {M' : am_M} (M : am_M) (h : XB_X9_layGames_53_9 M = some (x, M')) : am_R none 251 bk_X9_layGames 9 (am_wr [0, 0, 0, 0, 0] []) [] SH M (am_rv (am_rk 251) x) SH M' :=
  vRegion (sc := none) (sh := SH) (F := F_X9_layGames_53) (k := 251) (bs := bk_X9_layGames) (r := (x, M')) (C := fun t lv st M => none) ok_X9_layGames fs_X9_layGames_53 (fun t lv st M h => by
    cases h) 12 9 (am_wr [0, 0, 0, 0, 0] []) [] M h
noncomputable def XB_X9_layGames_53_8 (c4 : Int → am_M → am_Rs) (v3 : Int) (M : am_M) : am_Rs :=
  c4 (v3 + (-1)) M
set_option maxRecDepth 100000 in
theorem rs_X9_layGames_53_8 {x : Int} {M' : am_M} {c4 : Int → am_M → am_Rs} (h4 : ∀ w3 M, c4 w3 M = some (x, M') → am_R none 251 bk_X9_layGames 4 (am_wr [56, 0, 0, 1, 0] [w3]) [] SH M (am_rv (am_rk 251) x) SH M') (v3 : Int) (M : am_M) (h : XB_X9_layGames_53_8 c4 v3 M = some (x, M')) : am_R none 251 bk_X9_layGames 8 (am_wr [56, 0, 0, 1, 0] [v3]) [] SH M (am_rv (am_rk 251) x) SH M' :=
  vRegion (sc := none) (sh := SH) (F := F_X9_layGames_53) (k := 251) (bs := bk_X9_layGames) (r := (x, M')) (C := fun t lv st M => if t = 4 then vCt [56, 0, 0, 1, 0] (un1 c4) lv st M else none) ok_X9_layGames fs_X9_layGames_53 (fun t lv st M h => by
    split at h
    · rename_i e; subst e; exact vCt_s (un1_s h4) h
    cases h) 12 8 (am_wr [56, 0, 0, 1, 0] [v3]) [] M h
noncomputable def XB_X9_layGames_53_e (c1 : Int → Int → am_M → am_Rs) (v1 v2 : Int) (M : am_M) : am_Rs :=
  c1 v1 0 (am_up (am_up M 53 29 v1) 53 30 v2)
set_option maxRecDepth 100000 in
theorem rs_X9_layGames_53_e {x : Int} {M' : am_M} {c1 : Int → Int → am_M → am_Rs} (h1 : ∀ w1 w3 M, c1 w1 w3 M = some (x, M') → am_R none 251 bk_X9_layGames 1 (am_wr [56, 1, 0, 1, 0] [w1, w3]) [] SH M (am_rv (am_rk 251) x) SH M') (v1 v2 : Int) (M : am_M) (h : XB_X9_layGames_53_e c1 v1 v2 M = some (x, M')) : am_R none 251 bk_X9_layGames 0 (am_ent 5 [.inr (.inr (some 53)), .inl v1, .inl v2]) [] SH M (am_rv (am_rk 251) x) SH M' :=
  vRegion (sc := none) (sh := SH) (F := F_X9_layGames_53) (k := 251) (bs := bk_X9_layGames) (r := (x, M')) (C := fun t lv st M => if t = 1 then vCt [56, 1, 0, 1, 0] (un2 c1) lv st M else none) ok_X9_layGames fs_X9_layGames_53 (fun t lv st M h => by
    split at h
    · rename_i e; subst e; exact vCt_s (un2_s h1) h
    cases h) 12 0 (am_ent 5 [.inr (.inr (some 53)), .inl v1, .inl v2]) [] M h
noncomputable def XL_X9_layGames_53_1 (k3 : Int → am_M → am_Rs) : Nat → Int → Int → am_M → am_Rs
  | 0, _, _, _ => none
  | n + 1, v1, v3, M => XB_X9_layGames_53_1 (XL_X9_layGames_53_1 k3 n) k3 v1 v3 M
theorem ls_X9_layGames_53_1 {x : Int} {M' : am_M} {k3 : Int → am_M → am_Rs} (hk3 : ∀ w1 M, k3 w1 M = some (x, M') → am_R none 251 bk_X9_layGames 3 (am_wr [56, 1, 0, 0, 0] [w1]) [] SH M (am_rv (am_rk 251) x) SH M') : ∀ (n : Nat) (v1 v3 : Int) (M : am_M), XL_X9_layGames_53_1 k3 n v1 v3 M = some (x, M') → am_R none 251 bk_X9_layGames 1 (am_wr [56, 1, 0, 1, 0] [v1, v3]) [] SH M (am_rv (am_rk 251) x) SH M'
  | 0, v1, v3, M, h => by cases h
  | n + 1, v1, v3, M, h => rs_X9_layGames_53_1 (ls_X9_layGames_53_1 hk3 n) hk3 v1 v3 M h
noncomputable def XL_X9_layGames_53_6 (k8 : Int → am_M → am_Rs) : Nat → Int → Int → am_M → am_Rs
  | 0, _, _, _ => none
  | n + 1, v3, v4, M => XB_X9_layGames_53_6 (XL_X9_layGames_53_6 k8 n) k8 v3 v4 M
theorem ls_X9_layGames_53_6 {x : Int} {M' : am_M} {k8 : Int → am_M → am_Rs} (hk8 : ∀ w3 M, k8 w3 M = some (x, M') → am_R none 251 bk_X9_layGames 8 (am_wr [56, 0, 0, 1, 0] [w3]) [] SH M (am_rv (am_rk 251) x) SH M') : ∀ (n : Nat) (v3 v4 : Int) (M : am_M), XL_X9_layGames_53_6 k8 n v3 v4 M = some (x, M') → am_R none 251 bk_X9_layGames 6 (am_wr [56, 0, 0, 1, 1] [v3, v4]) [] SH M (am_rv (am_rk 251) x) SH M'
  | 0, v3, v4, M, h => by cases h
  | n + 1, v3, v4, M, h => rs_X9_layGames_53_6 (ls_X9_layGames_53_6 hk8 n) hk8 v3 v4 M h
noncomputable def XL_X9_layGames_53_4 (k9 : am_M → am_Rs) : Nat → Int → am_M → am_Rs
  | 0, _, _ => none
  | n + 1, v3, M => XB_X9_layGames_53_4 (XL_X9_layGames_53_6 (XB_X9_layGames_53_8 (XL_X9_layGames_53_4 k9 n)) 1000) k9 v3 M
theorem ls_X9_layGames_53_4 {x : Int} {M' : am_M} {k9 : am_M → am_Rs} (hk9 : ∀ M, k9 M = some (x, M') → am_R none 251 bk_X9_layGames 9 (am_wr [0, 0, 0, 0, 0] []) [] SH M (am_rv (am_rk 251) x) SH M') : ∀ (n : Nat) (v3 : Int) (M : am_M), XL_X9_layGames_53_4 k9 n v3 M = some (x, M') → am_R none 251 bk_X9_layGames 4 (am_wr [56, 0, 0, 1, 0] [v3]) [] SH M (am_rv (am_rk 251) x) SH M'
  | 0, v3, M, h => by cases h
  | n + 1, v3, M, h => rs_X9_layGames_53_4 (ls_X9_layGames_53_6 (rs_X9_layGames_53_8 (ls_X9_layGames_53_4 hk9 n)) 1000) hk9 v3 M h
noncomputable def X_X9_layGames_53 (v1 v2 : Int) (M : am_M) : am_Rs := XB_X9_layGames_53_e (XL_X9_layGames_53_1 (XB_X9_layGames_53_3 (XL_X9_layGames_53_4 (XB_X9_layGames_53_9) 1000)) 1000) v1 v2 M
theorem dc_X9_layGames_53 (v1 v2 : Int) (M M' : am_M) (x : Int) (h : X_X9_layGames_53 v1 v2 M = some (x, M')) : am_Calls 251 [.inr (.inr (some 53)), .inl v1, .inl v2] SH M (am_rv (am_rk 251) x) SH M' :=
  am_enter pn_X9_layGames ml_X9_layGames rfl (Nat.le_of_ble_eq_true rfl) ⟨Nat.le_refl _, Nat.le_refl _⟩ (rs_X9_layGames_53_e (ls_X9_layGames_53_1 (rs_X9_layGames_53_3 (ls_X9_layGames_53_4 (rs_X9_layGames_53_9) 1000)) 1000) v1 v2 M h)
noncomputable def F_X9_game_53 : Nat → List am_V → am_M → am_Rs := fun k as M => if k = 171 then (match as with
  | [.inr (.inr (some 53)), .inl a1] => X_X9_tell_53 a1 M
  | _ => none) else if k = 251 then (match as with
  | [.inr (.inr (some 53)), .inl a1, .inl a2] => X_X9_layGames_53 a1 a2 M
  | _ => none) else if k = 252 then (match as with
  | [.inl a0, .inl a1, .inl a2] => X_X9_isGame a0 a1 a2 M
  | _ => none) else none
theorem fs_X9_game_53 : am_FS SH F_X9_game_53 := by
  intro k as M x M' h
  unfold F_X9_game_53 at h
  split at h
  · rename_i hk; subst hk
    split at h
    · exact dc_X9_tell_53 _ _ _ _ h
    · cases h
  split at h
  · rename_i hk; subst hk
    split at h
    · exact dc_X9_layGames_53 _ _ _ _ _ h
    · cases h
  split at h
  · rename_i hk; subst hk
    split at h
    · exact dc_X9_isGame _ _ _ _ _ _ h
    · cases h
  cases h
noncomputable def X_X9_game_53 (v1 v2 : Int) (M : am_M) : am_Rs :=
  (X_X9_isGame v1 v2 0 M).bind fun z1 =>
  if wI z1.1 = 0 then
   some ((-1), z1.2)
  else if wI (z1.2 53 1) = 0 then
   some ((-4), z1.2)
  else (X_X9_layGames_53 v1 v2 z1.2).bind fun z2 =>
  if 0 ≤ wI (z2.2 54 1) ∧ wI (z2.2 54 1) < 65 then
  (X_X9_tell_53 (z2.2 68 (wI (z2.2 54 1)).toNat) z2.2).bind fun z3 =>
   some (z3.1, z3.2)
  else none
set_option maxRecDepth 100000 in
theorem dc_X9_game_53 (v1 v2 : Int) (M M' : am_M) (x : Int) (h : X_X9_game_53 v1 v2 M = some (x, M')) : am_Calls 253 [.inr (.inr (some 53)), .inl v1, .inl v2] SH M (am_rv (am_rk 253) x) SH M' :=
  vCall (F := F_X9_game_53) (C := fun _ _ _ _ => none) (fu := 7) ok_X9_game pn_X9_game ml_X9_game rfl (Nat.le_of_ble_eq_true rfl) fs_X9_game_53 (fun _ _ _ _ h => by cases h) h
noncomputable def F_X9_said_53 : Nat → List am_V → am_M → am_Rs := fun k as M => if k = 250 then (match as with
  | [.inr (.inr (some 53)), .inl a1, .inl a2] => X_X9_firstTo_53 a1 a2 M
  | _ => none) else if k = 251 then (match as with
  | [.inr (.inr (some 53)), .inl a1, .inl a2] => X_X9_layGames_53 a1 a2 M
  | _ => none) else if k = 252 then (match as with
  | [.inl a0, .inl a1, .inl a2] => X_X9_isGame a0 a1 a2 M
  | _ => none) else none
theorem fs_X9_said_53 : am_FS SH F_X9_said_53 := by
  intro k as M x M' h
  unfold F_X9_said_53 at h
  split at h
  · rename_i hk; subst hk
    split at h
    · exact dc_X9_firstTo_53 _ _ _ _ _ h
    · cases h
  split at h
  · rename_i hk; subst hk
    split at h
    · exact dc_X9_layGames_53 _ _ _ _ _ h
    · cases h
  split at h
  · rename_i hk; subst hk
    split at h
    · exact dc_X9_isGame _ _ _ _ _ _ h
    · cases h
  cases h
noncomputable def X_X9_said_53 (v1 v2 : Int) (M : am_M) : am_Rs :=
  (X_X9_isGame v1 v2 1 M).bind fun z1 =>
  if wI z1.1 = 0 then
   some ((-1), z1.2)
  else if wI (z1.2 53 1) = 0 then
   some ((-4), z1.2)
  else (X_X9_layGames_53 v1 v2 z1.2).bind fun z2 =>
  (X_X9_firstTo_53 0 (z2.2 54 1) z2.2).bind fun z3 =>
  some (z3.1, z3.2)
set_option maxRecDepth 100000 in
theorem dc_X9_said_53 (v1 v2 : Int) (M M' : am_M) (x : Int) (h : X_X9_said_53 v1 v2 M = some (x, M')) : am_Calls 254 [.inr (.inr (some 53)), .inl v1, .inl v2] SH M (am_rv (am_rk 254) x) SH M' :=
  vCall (F := F_X9_said_53) (C := fun _ _ _ _ => none) (fu := 7) ok_X9_said pn_X9_said ml_X9_said rfl (Nat.le_of_ble_eq_true rfl) fs_X9_said_53 (fun _ _ _ _ h => by cases h) h
noncomputable def F_X9_calm_53 : Nat → List am_V → am_M → am_Rs := fun k as M => if k = 248 then (match as with
  | [.inr (.inr (some 53)), .inl a1, .inl a2, .inl a3] => X_X9_answerTo_53 a1 a2 a3 M
  | _ => none) else if k = 250 then (match as with
  | [.inr (.inr (some 53)), .inl a1, .inl a2] => X_X9_firstTo_53 a1 a2 M
  | _ => none) else if k = 251 then (match as with
  | [.inr (.inr (some 53)), .inl a1, .inl a2] => X_X9_layGames_53 a1 a2 M
  | _ => none) else if k = 252 then (match as with
  | [.inl a0, .inl a1, .inl a2] => X_X9_isGame a0 a1 a2 M
  | _ => none) else none
theorem fs_X9_calm_53 : am_FS SH F_X9_calm_53 := by
  intro k as M x M' h
  unfold F_X9_calm_53 at h
  split at h
  · rename_i hk; subst hk
    split at h
    · exact dc_X9_answerTo_53 _ _ _ _ _ _ h
    · cases h
  split at h
  · rename_i hk; subst hk
    split at h
    · exact dc_X9_firstTo_53 _ _ _ _ _ h
    · cases h
  split at h
  · rename_i hk; subst hk
    split at h
    · exact dc_X9_layGames_53 _ _ _ _ _ h
    · cases h
  split at h
  · rename_i hk; subst hk
    split at h
    · exact dc_X9_isGame _ _ _ _ _ _ h
    · cases h
  cases h
noncomputable def XB_X9_calm_53_5 (c5 : Int → Int → am_M → am_Rs) (c12 : Int → am_M → am_Rs) (v3 v4 : Int) (M : am_M) : am_Rs :=
  if wI v4 < wI (M 53 29) then
   if wI v3 = 0 then
    c5 0 (v4 + 1) M
   else (X_X9_firstTo_53 v4 (M 54 1) M).bind fun z1 =>
   if wI z1.1 = 0 then
    (X_X9_answerTo_53 v4 (z1.2 54 1) 0 z1.2).bind fun z2 =>
    if wI z2.1 = 0 then
     c5 1 (v4 + 1) z2.2
    else c5 0 (v4 + 1) z2.2
   else c5 0 (v4 + 1) z1.2
  else c12 v3 M
set_option maxRecDepth 100000 in
theorem rs_X9_calm_53_5 {x : Int} {M' : am_M} {c5 : Int → Int → am_M → am_Rs} {c12 : Int → am_M → am_Rs} (h5 : ∀ w3 w4 M, c5 w3 w4 M = some (x, M') → am_R none 255 bk_X9_calm 5 (am_wr [56, 0, 0, 1, 1] [w3, w4]) [] SH M (am_rv (am_rk 255) x) SH M') (h12 : ∀ w3 M, c12 w3 M = some (x, M') → am_R none 255 bk_X9_calm 12 (am_wr [0, 0, 0, 1, 0] [w3]) [] SH M (am_rv (am_rk 255) x) SH M') (v3 v4 : Int) (M : am_M) (h : XB_X9_calm_53_5 c5 c12 v3 v4 M = some (x, M')) : am_R none 255 bk_X9_calm 5 (am_wr [56, 0, 0, 1, 1] [v3, v4]) [] SH M (am_rv (am_rk 255) x) SH M' :=
  vRegion (sc := none) (sh := SH) (F := F_X9_calm_53) (k := 255) (bs := bk_X9_calm) (r := (x, M')) (C := fun t lv st M => if t = 5 then vCt [56, 0, 0, 1, 1] (un2 c5) lv st M else if t = 12 then vCt [0, 0, 0, 1, 0] (un1 c12) lv st M else none) ok_X9_calm fs_X9_calm_53 (fun t lv st M h => by
    split at h
    · rename_i e; subst e; exact vCt_s (un2_s h5) h
    split at h
    · rename_i e; subst e; exact vCt_s (un1_s h12) h
    cases h) 18 5 (am_wr [56, 0, 0, 1, 1] [v3, v4]) [] M h
noncomputable def XB_X9_calm_53_12 (v3 : Int) (M : am_M) : am_Rs :=
  if wI v3 = 0 then
   some (0, M)
  else some (1, M)
set_option maxRecDepth 100000 in
theorem rs_X9_calm_53_12 {x : Int} {M' : am_M} (v3 : Int) (M : am_M) (h : XB_X9_calm_53_12 v3 M = some (x, M')) : am_R none 255 bk_X9_calm 12 (am_wr [0, 0, 0, 1, 0] [v3]) [] SH M (am_rv (am_rk 255) x) SH M' :=
  vRegion (sc := none) (sh := SH) (F := F_X9_calm_53) (k := 255) (bs := bk_X9_calm) (r := (x, M')) (C := fun t lv st M => none) ok_X9_calm fs_X9_calm_53 (fun t lv st M h => by
    cases h) 18 12 (am_wr [0, 0, 0, 1, 0] [v3]) [] M h
noncomputable def XB_X9_calm_53_e (c5 : Int → Int → am_M → am_Rs) (v1 v2 : Int) (M : am_M) : am_Rs :=
  (X_X9_isGame v1 v2 0 M).bind fun z1 =>
  if wI z1.1 = 0 then
   some ((-1), z1.2)
  else if wI (z1.2 53 1) = 0 then
   some ((-4), z1.2)
  else (X_X9_layGames_53 v1 v2 z1.2).bind fun z2 =>
  c5 1 0 z2.2
set_option maxRecDepth 100000 in
theorem rs_X9_calm_53_e {x : Int} {M' : am_M} {c5 : Int → Int → am_M → am_Rs} (h5 : ∀ w3 w4 M, c5 w3 w4 M = some (x, M') → am_R none 255 bk_X9_calm 5 (am_wr [56, 0, 0, 1, 1] [w3, w4]) [] SH M (am_rv (am_rk 255) x) SH M') (v1 v2 : Int) (M : am_M) (h : XB_X9_calm_53_e c5 v1 v2 M = some (x, M')) : am_R none 255 bk_X9_calm 0 (am_ent 5 [.inr (.inr (some 53)), .inl v1, .inl v2]) [] SH M (am_rv (am_rk 255) x) SH M' :=
  vRegion (sc := none) (sh := SH) (F := F_X9_calm_53) (k := 255) (bs := bk_X9_calm) (r := (x, M')) (C := fun t lv st M => if t = 5 then vCt [56, 0, 0, 1, 1] (un2 c5) lv st M else none) ok_X9_calm fs_X9_calm_53 (fun t lv st M h => by
    split at h
    · rename_i e; subst e; exact vCt_s (un2_s h5) h
    cases h) 18 0 (am_ent 5 [.inr (.inr (some 53)), .inl v1, .inl v2]) [] M h
noncomputable def XL_X9_calm_53_5 (k12 : Int → am_M → am_Rs) : Nat → Int → Int → am_M → am_Rs
  | 0, _, _, _ => none
  | n + 1, v3, v4, M => XB_X9_calm_53_5 (XL_X9_calm_53_5 k12 n) k12 v3 v4 M
theorem ls_X9_calm_53_5 {x : Int} {M' : am_M} {k12 : Int → am_M → am_Rs} (hk12 : ∀ w3 M, k12 w3 M = some (x, M') → am_R none 255 bk_X9_calm 12 (am_wr [0, 0, 0, 1, 0] [w3]) [] SH M (am_rv (am_rk 255) x) SH M') : ∀ (n : Nat) (v3 v4 : Int) (M : am_M), XL_X9_calm_53_5 k12 n v3 v4 M = some (x, M') → am_R none 255 bk_X9_calm 5 (am_wr [56, 0, 0, 1, 1] [v3, v4]) [] SH M (am_rv (am_rk 255) x) SH M'
  | 0, v3, v4, M, h => by cases h
  | n + 1, v3, v4, M, h => rs_X9_calm_53_5 (ls_X9_calm_53_5 hk12 n) hk12 v3 v4 M h
noncomputable def X_X9_calm_53 (v1 v2 : Int) (M : am_M) : am_Rs := XB_X9_calm_53_e (XL_X9_calm_53_5 (XB_X9_calm_53_12) 1000) v1 v2 M
theorem dc_X9_calm_53 (v1 v2 : Int) (M M' : am_M) (x : Int) (h : X_X9_calm_53 v1 v2 M = some (x, M')) : am_Calls 255 [.inr (.inr (some 53)), .inl v1, .inl v2] SH M (am_rv (am_rk 255) x) SH M' :=
  am_enter pn_X9_calm ml_X9_calm rfl (Nat.le_of_ble_eq_true rfl) ⟨Nat.le_refl _, Nat.le_refl _⟩ (rs_X9_calm_53_e (ls_X9_calm_53_5 (rs_X9_calm_53_12) 1000) v1 v2 M h)
noncomputable def F_X9_law_53 : Nat → List am_V → am_M → am_Rs := fun k as M => if k = 194 then (match as with
  | [.inr (.inr (some 53)), .inl a1] => X_X9_isStrip_53 a1 M
  | _ => none) else if k = 197 then (match as with
  | [.inl a0, .inl a1] => X_X9_isAt a0 a1 M
  | _ => none) else if k = 213 then (match as with
  | [.inr (.inr (some 53)), .inl a1] => X_X9_lain_53 a1 M
  | _ => none) else none
theorem fs_X9_law_53 : am_FS SH F_X9_law_53 := by
  intro k as M x M' h
  unfold F_X9_law_53 at h
  split at h
  · rename_i hk; subst hk
    split at h
    · exact dc_X9_isStrip_53 _ _ _ _ h
    · cases h
  split at h
  · rename_i hk; subst hk
    split at h
    · exact dc_X9_isAt _ _ _ _ _ h
    · cases h
  split at h
  · rename_i hk; subst hk
    split at h
    · exact dc_X9_lain_53 _ _ _ _ h
    · cases h
  cases h
noncomputable def X_X9_law_53 (v1 v2 : Int) (M : am_M) : am_Rs :=
  (X_X9_isStrip_53 v1 M).bind fun z1 =>
  if wI z1.1 = 0 then
   some ((-1), z1.2)
  else if wI v2 < 0 then
   some ((-1), z1.2)
  else if wI (z1.2 54 0) < wI v2 then
   some ((-4), z1.2)
  else (X_X9_lain_53 v2 z1.2).bind fun z2 =>
  if 0 ≤ wI v1 ∧ wI v1 < 12 then
  if wI (z2.2 55 (wI v1).toNat) = 5 then
    (X_X9_isAt z2.1 v1 z2.2).bind fun z3 =>
    if wI z3.1 = 0 then
     if wI v1 < wI z2.1 then
      some (1, z3.2)
     else some (2, z3.2)
    else some (3, z3.2)
   else if wI v1 < wI z2.1 then
    some (1, z2.2)
   else some (2, z2.2)
  else none
set_option maxRecDepth 100000 in
theorem dc_X9_law_53 (v1 v2 : Int) (M M' : am_M) (x : Int) (h : X_X9_law_53 v1 v2 M = some (x, M')) : am_Calls 256 [.inr (.inr (some 53)), .inl v1, .inl v2] SH M (am_rv (am_rk 256) x) SH M' :=
  vCall (F := F_X9_law_53) (C := fun _ _ _ _ => none) (fu := 14) ok_X9_law pn_X9_law ml_X9_law rfl (Nat.le_of_ble_eq_true rfl) fs_X9_law_53 (fun _ _ _ _ h => by cases h) h
noncomputable def F_X9_areBooks_53 : Nat → List am_V → am_M → am_Rs := fun k as M => if k = 168 then (match as with
  | [.inr (.inl a0), .inr (.inl a2), .inr (.inl a4)] => X_X9_in a0 a2 a4 M
  | _ => none) else if k = 194 then (match as with
  | [.inr (.inr (some 53)), .inl a1] => X_X9_isStrip_53 a1 M
  | _ => none) else none
theorem fs_X9_areBooks_53 : am_FS SH F_X9_areBooks_53 := by
  intro k as M x M' h
  unfold F_X9_areBooks_53 at h
  split at h
  · rename_i hk; subst hk
    split at h
    · exact dc_X9_in _ _ _ _ _ _ h
    · cases h
  split at h
  · rename_i hk; subst hk
    split at h
    · exact dc_X9_isStrip_53 _ _ _ _ h
    · cases h
  cases h
noncomputable def XB_X9_areBooks_53_1 (c1 : Int → Int → Int → am_M → am_Rs) (c9 : Int → am_M → am_Rs) (v1 v2 v3 : Int) (M : am_M) : am_Rs :=
  if 0 ≤ wI v1 ∧ wI v1 < 6 then
  if wI v3 < wI ((40 * v1) + (M 57 (wI v1).toNat)) then
    if wI v2 = 0 then
     c1 v1 0 (v3 + 3) M
    else if 0 ≤ wI v3 ∧ wI v3 < 240 then
    (X_X9_in (wI (M 58 (wI v3).toNat)) 0 (wI (M 54 0)) M).bind fun z1 =>
     if wI z1.1 = 0 then
      c1 v1 0 (v3 + 3) z1.2
     else if 0 ≤ wI (v3 + 1) ∧ wI (v3 + 1) < 240 then
     (X_X9_isStrip_53 (z1.2 58 (wI (v3 + 1)).toNat) z1.2).bind fun z2 =>
      if wI z2.1 = 0 then
       c1 v1 0 (v3 + 3) z2.2
      else if 0 ≤ wI (v3 + 2) ∧ wI (v3 + 2) < 240 then
      (X_X9_in (wI (z2.2 58 (wI (v3 + 2)).toNat)) 0 1 z2.2).bind fun z3 =>
       if wI z3.1 = 0 then
        c1 v1 0 (v3 + 3) z3.2
       else c1 v1 1 (v3 + 3) z3.2
      else none
     else none
    else none
   else c9 v2 M
  else none
set_option maxRecDepth 100000 in
theorem rs_X9_areBooks_53_1 {x : Int} {M' : am_M} {c1 : Int → Int → Int → am_M → am_Rs} {c9 : Int → am_M → am_Rs} (h1 : ∀ w1 w2 w3 M, c1 w1 w2 w3 M = some (x, M') → am_R none 258 bk_X9_areBooks 1 (am_wr [56, 1, 1, 1] [w1, w2, w3]) [] SH M (am_rv (am_rk 258) x) SH M') (h9 : ∀ w2 M, c9 w2 M = some (x, M') → am_R none 258 bk_X9_areBooks 9 (am_wr [0, 0, 1, 0] [w2]) [] SH M (am_rv (am_rk 258) x) SH M') (v1 v2 v3 : Int) (M : am_M) (h : XB_X9_areBooks_53_1 c1 c9 v1 v2 v3 M = some (x, M')) : am_R none 258 bk_X9_areBooks 1 (am_wr [56, 1, 1, 1] [v1, v2, v3]) [] SH M (am_rv (am_rk 258) x) SH M' :=
  vRegion (sc := none) (sh := SH) (F := F_X9_areBooks_53) (k := 258) (bs := bk_X9_areBooks) (r := (x, M')) (C := fun t lv st M => if t = 1 then vCt [56, 1, 1, 1] (un3 c1) lv st M else if t = 9 then vCt [0, 0, 1, 0] (un1 c9) lv st M else none) ok_X9_areBooks fs_X9_areBooks_53 (fun t lv st M h => by
    split at h
    · rename_i e; subst e; exact vCt_s (un3_s h1) h
    split at h
    · rename_i e; subst e; exact vCt_s (un1_s h9) h
    cases h) 12 1 (am_wr [56, 1, 1, 1] [v1, v2, v3]) [] M h
noncomputable def XB_X9_areBooks_53_9 (v2 : Int) (M : am_M) : am_Rs :=
  if v2 = 0 ∨ v2 = 1 then
  some (v2, M)
  else none
set_option maxRecDepth 100000 in
theorem rs_X9_areBooks_53_9 {x : Int} {M' : am_M} (v2 : Int) (M : am_M) (h : XB_X9_areBooks_53_9 v2 M = some (x, M')) : am_R none 258 bk_X9_areBooks 9 (am_wr [0, 0, 1, 0] [v2]) [] SH M (am_rv (am_rk 258) x) SH M' :=
  vRegion (sc := none) (sh := SH) (F := F_X9_areBooks_53) (k := 258) (bs := bk_X9_areBooks) (r := (x, M')) (C := fun t lv st M => none) ok_X9_areBooks fs_X9_areBooks_53 (fun t lv st M h => by
    cases h) 12 9 (am_wr [0, 0, 1, 0] [v2]) [] M h
noncomputable def XB_X9_areBooks_53_e (c1 : Int → Int → Int → am_M → am_Rs) (v1 : Int) (M : am_M) : am_Rs :=
  c1 v1 1 (40 * v1) M
set_option maxRecDepth 100000 in
theorem rs_X9_areBooks_53_e {x : Int} {M' : am_M} {c1 : Int → Int → Int → am_M → am_Rs} (h1 : ∀ w1 w2 w3 M, c1 w1 w2 w3 M = some (x, M') → am_R none 258 bk_X9_areBooks 1 (am_wr [56, 1, 1, 1] [w1, w2, w3]) [] SH M (am_rv (am_rk 258) x) SH M') (v1 : Int) (M : am_M) (h : XB_X9_areBooks_53_e c1 v1 M = some (x, M')) : am_R none 258 bk_X9_areBooks 0 (am_ent 4 [.inr (.inr (some 53)), .inl v1]) [] SH M (am_rv (am_rk 258) x) SH M' :=
  vRegion (sc := none) (sh := SH) (F := F_X9_areBooks_53) (k := 258) (bs := bk_X9_areBooks) (r := (x, M')) (C := fun t lv st M => if t = 1 then vCt [56, 1, 1, 1] (un3 c1) lv st M else none) ok_X9_areBooks fs_X9_areBooks_53 (fun t lv st M h => by
    split at h
    · rename_i e; subst e; exact vCt_s (un3_s h1) h
    cases h) 12 0 (am_ent 4 [.inr (.inr (some 53)), .inl v1]) [] M h
noncomputable def XL_X9_areBooks_53_1 (k9 : Int → am_M → am_Rs) : Nat → Int → Int → Int → am_M → am_Rs
  | 0, _, _, _, _ => none
  | n + 1, v1, v2, v3, M => XB_X9_areBooks_53_1 (XL_X9_areBooks_53_1 k9 n) k9 v1 v2 v3 M
theorem ls_X9_areBooks_53_1 {x : Int} {M' : am_M} {k9 : Int → am_M → am_Rs} (hk9 : ∀ w2 M, k9 w2 M = some (x, M') → am_R none 258 bk_X9_areBooks 9 (am_wr [0, 0, 1, 0] [w2]) [] SH M (am_rv (am_rk 258) x) SH M') : ∀ (n : Nat) (v1 v2 v3 : Int) (M : am_M), XL_X9_areBooks_53_1 k9 n v1 v2 v3 M = some (x, M') → am_R none 258 bk_X9_areBooks 1 (am_wr [56, 1, 1, 1] [v1, v2, v3]) [] SH M (am_rv (am_rk 258) x) SH M'
  | 0, v1, v2, v3, M, h => by cases h
  | n + 1, v1, v2, v3, M, h => rs_X9_areBooks_53_1 (ls_X9_areBooks_53_1 hk9 n) hk9 v1 v2 v3 M h
noncomputable def X_X9_areBooks_53 (v1 : Int) (M : am_M) : am_Rs := XB_X9_areBooks_53_e (XL_X9_areBooks_53_1 (XB_X9_areBooks_53_9) 1000) v1 M
theorem dc_X9_areBooks_53 (v1 : Int) (M M' : am_M) (x : Int) (h : X_X9_areBooks_53 v1 M = some (x, M')) : am_Calls 258 [.inr (.inr (some 53)), .inl v1] SH M (am_rv (am_rk 258) x) SH M' :=
  am_enter pn_X9_areBooks ml_X9_areBooks rfl (Nat.le_of_ble_eq_true rfl) ⟨Nat.le_refl _, Nat.le_refl _⟩ (rs_X9_areBooks_53_e (ls_X9_areBooks_53_1 (rs_X9_areBooks_53_9) 1000) v1 M h)
noncomputable def F_X9_broughtTo_53 : Nat → List am_V → am_M → am_Rs := fun k as M => if k = 196 then (match as with
  | [.inr (.inr (some 53)), .inl a1, .inl a2, .inl a3, .inl a4] => X_X9_behind_53 a1 a2 a3 a4 M
  | _ => none) else none
theorem fs_X9_broughtTo_53 : am_FS SH F_X9_broughtTo_53 := by
  intro k as M x M' h
  unfold F_X9_broughtTo_53 at h
  split at h
  · rename_i hk; subst hk
    split at h
    · exact dc_X9_behind_53 _ _ _ _ _ _ _ h
    · cases h
  cases h
noncomputable def XB_X9_broughtTo_53_1 (c1 : Int → Int → Int → am_M → am_Rs) (c3 : Int → am_M → am_Rs) (v2 v3 v4 : Int) (M : am_M) : am_Rs :=
  if wI v4 < wI v2 then
   if 0 ≤ wI (40 + v4) ∧ wI (40 + v4) < 605 then
   if 0 ≤ wI (40 + v4) ∧ wI (40 + v4) < 605 then
    (X_X9_behind_53 v3 v4 ((wI (M 54 (wI (40 + v4)).toNat)).tdiv 4) ((wI (M 54 (wI (40 + v4)).toNat)).tmod 4) M).bind fun z1 =>
     c1 v2 z1.1 (v4 + 1) z1.2
    else none
   else none
  else c3 v3 M
set_option maxRecDepth 100000 in
theorem rs_X9_broughtTo_53_1 {x : Int} {M' : am_M} {c1 : Int → Int → Int → am_M → am_Rs} {c3 : Int → am_M → am_Rs} (h1 : ∀ w2 w3 w4 M, c1 w2 w3 w4 M = some (x, M') → am_R none 257 bk_X9_broughtTo 1 (am_wr [56, 0, 1, 1, 1] [w2, w3, w4]) [] SH M (am_rv (am_rk 257) x) SH M') (h3 : ∀ w3 M, c3 w3 M = some (x, M') → am_R none 257 bk_X9_broughtTo 3 (am_wr [0, 0, 0, 1, 0] [w3]) [] SH M (am_rv (am_rk 257) x) SH M') (v2 v3 v4 : Int) (M : am_M) (h : XB_X9_broughtTo_53_1 c1 c3 v2 v3 v4 M = some (x, M')) : am_R none 257 bk_X9_broughtTo 1 (am_wr [56, 0, 1, 1, 1] [v2, v3, v4]) [] SH M (am_rv (am_rk 257) x) SH M' :=
  vRegion (sc := none) (sh := SH) (F := F_X9_broughtTo_53) (k := 257) (bs := bk_X9_broughtTo) (r := (x, M')) (C := fun t lv st M => if t = 1 then vCt [56, 0, 1, 1, 1] (un3 c1) lv st M else if t = 3 then vCt [0, 0, 0, 1, 0] (un1 c3) lv st M else none) ok_X9_broughtTo fs_X9_broughtTo_53 (fun t lv st M h => by
    split at h
    · rename_i e; subst e; exact vCt_s (un3_s h1) h
    split at h
    · rename_i e; subst e; exact vCt_s (un1_s h3) h
    cases h) 6 1 (am_wr [56, 0, 1, 1, 1] [v2, v3, v4]) [] M h
noncomputable def XB_X9_broughtTo_53_3 (v3 : Int) (M : am_M) : am_Rs :=
  some (v3, M)
set_option maxRecDepth 100000 in
theorem rs_X9_broughtTo_53_3 {x : Int} {M' : am_M} (v3 : Int) (M : am_M) (h : XB_X9_broughtTo_53_3 v3 M = some (x, M')) : am_R none 257 bk_X9_broughtTo 3 (am_wr [0, 0, 0, 1, 0] [v3]) [] SH M (am_rv (am_rk 257) x) SH M' :=
  vRegion (sc := none) (sh := SH) (F := F_X9_broughtTo_53) (k := 257) (bs := bk_X9_broughtTo) (r := (x, M')) (C := fun t lv st M => none) ok_X9_broughtTo fs_X9_broughtTo_53 (fun t lv st M h => by
    cases h) 6 3 (am_wr [0, 0, 0, 1, 0] [v3]) [] M h
noncomputable def XB_X9_broughtTo_53_e (c1 : Int → Int → Int → am_M → am_Rs) (v1 v2 : Int) (M : am_M) : am_Rs :=
  c1 v2 v1 0 M
set_option maxRecDepth 100000 in
theorem rs_X9_broughtTo_53_e {x : Int} {M' : am_M} {c1 : Int → Int → Int → am_M → am_Rs} (h1 : ∀ w2 w3 w4 M, c1 w2 w3 w4 M = some (x, M') → am_R none 257 bk_X9_broughtTo 1 (am_wr [56, 0, 1, 1, 1] [w2, w3, w4]) [] SH M (am_rv (am_rk 257) x) SH M') (v1 v2 : Int) (M : am_M) (h : XB_X9_broughtTo_53_e c1 v1 v2 M = some (x, M')) : am_R none 257 bk_X9_broughtTo 0 (am_ent 5 [.inr (.inr (some 53)), .inl v1, .inl v2]) [] SH M (am_rv (am_rk 257) x) SH M' :=
  vRegion (sc := none) (sh := SH) (F := F_X9_broughtTo_53) (k := 257) (bs := bk_X9_broughtTo) (r := (x, M')) (C := fun t lv st M => if t = 1 then vCt [56, 0, 1, 1, 1] (un3 c1) lv st M else none) ok_X9_broughtTo fs_X9_broughtTo_53 (fun t lv st M h => by
    split at h
    · rename_i e; subst e; exact vCt_s (un3_s h1) h
    cases h) 6 0 (am_ent 5 [.inr (.inr (some 53)), .inl v1, .inl v2]) [] M h
noncomputable def XL_X9_broughtTo_53_1 (k3 : Int → am_M → am_Rs) : Nat → Int → Int → Int → am_M → am_Rs
  | 0, _, _, _, _ => none
  | n + 1, v2, v3, v4, M => XB_X9_broughtTo_53_1 (XL_X9_broughtTo_53_1 k3 n) k3 v2 v3 v4 M
theorem ls_X9_broughtTo_53_1 {x : Int} {M' : am_M} {k3 : Int → am_M → am_Rs} (hk3 : ∀ w3 M, k3 w3 M = some (x, M') → am_R none 257 bk_X9_broughtTo 3 (am_wr [0, 0, 0, 1, 0] [w3]) [] SH M (am_rv (am_rk 257) x) SH M') : ∀ (n : Nat) (v2 v3 v4 : Int) (M : am_M), XL_X9_broughtTo_53_1 k3 n v2 v3 v4 M = some (x, M') → am_R none 257 bk_X9_broughtTo 1 (am_wr [56, 0, 1, 1, 1] [v2, v3, v4]) [] SH M (am_rv (am_rk 257) x) SH M'
  | 0, v2, v3, v4, M, h => by cases h
  | n + 1, v2, v3, v4, M, h => rs_X9_broughtTo_53_1 (ls_X9_broughtTo_53_1 hk3 n) hk3 v2 v3 v4 M h
noncomputable def X_X9_broughtTo_53 (v1 v2 : Int) (M : am_M) : am_Rs := XB_X9_broughtTo_53_e (XL_X9_broughtTo_53_1 (XB_X9_broughtTo_53_3) 1000) v1 v2 M
theorem dc_X9_broughtTo_53 (v1 v2 : Int) (M M' : am_M) (x : Int) (h : X_X9_broughtTo_53 v1 v2 M = some (x, M')) : am_Calls 257 [.inr (.inr (some 53)), .inl v1, .inl v2] SH M (am_rv (am_rk 257) x) SH M' :=
  am_enter pn_X9_broughtTo ml_X9_broughtTo rfl (Nat.le_of_ble_eq_true rfl) ⟨Nat.le_refl _, Nat.le_refl _⟩ (rs_X9_broughtTo_53_e (ls_X9_broughtTo_53_1 (rs_X9_broughtTo_53_3) 1000) v1 v2 M h)
noncomputable def F_X9_books_53 : Nat → List am_V → am_M → am_Rs := fun k as M => if k = 170 then (match as with
  | [.inr (.inr (some 53)), .inl a1] => X_X9_find_53 a1 M
  | _ => none) else if k = 172 then (match as with
  | [.inl a0] => X_X9_isRow a0 M
  | _ => none) else if k = 257 then (match as with
  | [.inr (.inr (some 53)), .inl a1, .inl a2] => X_X9_broughtTo_53 a1 a2 M
  | _ => none) else if k = 258 then (match as with
  | [.inr (.inr (some 53)), .inl a1] => X_X9_areBooks_53 a1 M
  | _ => none) else none
theorem fs_X9_books_53 : am_FS SH F_X9_books_53 := by
  intro k as M x M' h
  unfold F_X9_books_53 at h
  split at h
  · rename_i hk; subst hk
    split at h
    · exact dc_X9_find_53 _ _ _ _ h
    · cases h
  split at h
  · rename_i hk; subst hk
    split at h
    · exact dc_X9_isRow _ _ _ _ h
    · cases h
  split at h
  · rename_i hk; subst hk
    split at h
    · exact dc_X9_broughtTo_53 _ _ _ _ _ h
    · cases h
  split at h
  · rename_i hk; subst hk
    split at h
    · exact dc_X9_areBooks_53 _ _ _ _ h
    · cases h
  cases h
noncomputable def XB_X9_books_53_11 (c13 : Int → Int → Int → Int → Int → am_M → am_Rs) (c26 : Int → am_M → am_Rs) (v1 v2 v3 : Int) (M : am_M) : am_Rs :=
  if wI (M 53 1) < wI v3 then
   c26 v2 M
  else c13 v1 v2 v3 1 (40 * v1) M
set_option maxRecDepth 100000 in
theorem rs_X9_books_53_11 {x : Int} {M' : am_M} {c13 : Int → Int → Int → Int → Int → am_M → am_Rs} {c26 : Int → am_M → am_Rs} (h13 : ∀ w1 w2 w3 w4 w5 M, c13 w1 w2 w3 w4 w5 M = some (x, M') → am_R none 259 bk_X9_books 13 (am_wr [56, 1, 1, 1, 1, 1, 0] [w1, w2, w3, w4, w5]) [] SH M (am_rv (am_rk 259) x) SH M') (h26 : ∀ w2 M, c26 w2 M = some (x, M') → am_R none 259 bk_X9_books 26 (am_wr [0, 0, 1, 0, 0, 0, 0] [w2]) [] SH M (am_rv (am_rk 259) x) SH M') (v1 v2 v3 : Int) (M : am_M) (h : XB_X9_books_53_11 c13 c26 v1 v2 v3 M = some (x, M')) : am_R none 259 bk_X9_books 11 (am_wr [56, 1, 1, 1, 0, 0, 0] [v1, v2, v3]) [] SH M (am_rv (am_rk 259) x) SH M' :=
  vRegion (sc := none) (sh := SH) (F := F_X9_books_53) (k := 259) (bs := bk_X9_books) (r := (x, M')) (C := fun t lv st M => if t = 13 then vCt [56, 1, 1, 1, 1, 1, 0] (un5 c13) lv st M else if t = 26 then vCt [0, 0, 1, 0, 0, 0, 0] (un1 c26) lv st M else none) ok_X9_books fs_X9_books_53 (fun t lv st M h => by
    split at h
    · rename_i e; subst e; exact vCt_s (un5_s h13) h
    split at h
    · rename_i e; subst e; exact vCt_s (un1_s h26) h
    cases h) 29 11 (am_wr [56, 1, 1, 1, 0, 0, 0] [v1, v2, v3]) [] M h
noncomputable def XB_X9_books_53_13 (c13 : Int → Int → Int → Int → Int → am_M → am_Rs) (c22 : Int → Int → Int → Int → am_M → am_Rs) (v1 v2 v3 v4 v5 : Int) (M : am_M) : am_Rs :=
  if 0 ≤ wI v1 ∧ wI v1 < 6 then
  if wI v5 < wI ((40 * v1) + (M 57 (wI v1).toNat)) then
    if 0 ≤ wI (v5 + 1) ∧ wI (v5 + 1) < 240 then
    if 0 ≤ wI v5 ∧ wI v5 < 240 then
     (X_X9_broughtTo_53 v3 (M 58 (wI v5).toNat) M).bind fun z1 =>
      if wI (M 58 (wI (v5 + 1)).toNat) < wI z1.1 then
       if wI v4 = 0 then
        c13 v1 v2 v3 0 (v5 + 3) z1.2
       else if 0 ≤ wI (v5 + 2) ∧ wI (v5 + 2) < 240 then
       if 0 = wI (z1.2 58 (wI (v5 + 2)).toNat) then
         c13 v1 v2 v3 1 (v5 + 3) z1.2
        else c13 v1 v2 v3 0 (v5 + 3) z1.2
       else none
      else if wI v4 = 0 then
       c13 v1 v2 v3 0 (v5 + 3) z1.2
      else if 0 ≤ wI (v5 + 2) ∧ wI (v5 + 2) < 240 then
      if 1 = wI (z1.2 58 (wI (v5 + 2)).toNat) then
        c13 v1 v2 v3 1 (v5 + 3) z1.2
       else c13 v1 v2 v3 0 (v5 + 3) z1.2
      else none
     else none
    else none
   else c22 v1 v2 v3 v4 M
  else none
set_option maxRecDepth 100000 in
theorem rs_X9_books_53_13 {x : Int} {M' : am_M} {c13 : Int → Int → Int → Int → Int → am_M → am_Rs} {c22 : Int → Int → Int → Int → am_M → am_Rs} (h13 : ∀ w1 w2 w3 w4 w5 M, c13 w1 w2 w3 w4 w5 M = some (x, M') → am_R none 259 bk_X9_books 13 (am_wr [56, 1, 1, 1, 1, 1, 0] [w1, w2, w3, w4, w5]) [] SH M (am_rv (am_rk 259) x) SH M') (h22 : ∀ w1 w2 w3 w4 M, c22 w1 w2 w3 w4 M = some (x, M') → am_R none 259 bk_X9_books 22 (am_wr [56, 1, 1, 1, 1, 0, 0] [w1, w2, w3, w4]) [] SH M (am_rv (am_rk 259) x) SH M') (v1 v2 v3 v4 v5 : Int) (M : am_M) (h : XB_X9_books_53_13 c13 c22 v1 v2 v3 v4 v5 M = some (x, M')) : am_R none 259 bk_X9_books 13 (am_wr [56, 1, 1, 1, 1, 1, 0] [v1, v2, v3, v4, v5]) [] SH M (am_rv (am_rk 259) x) SH M' :=
  vRegion (sc := none) (sh := SH) (F := F_X9_books_53) (k := 259) (bs := bk_X9_books) (r := (x, M')) (C := fun t lv st M => if t = 13 then vCt [56, 1, 1, 1, 1, 1, 0] (un5 c13) lv st M else if t = 22 then vCt [56, 1, 1, 1, 1, 0, 0] (un4 c22) lv st M else none) ok_X9_books fs_X9_books_53 (fun t lv st M h => by
    split at h
    · rename_i e; subst e; exact vCt_s (un5_s h13) h
    split at h
    · rename_i e; subst e; exact vCt_s (un4_s h22) h
    cases h) 29 13 (am_wr [56, 1, 1, 1, 1, 1, 0] [v1, v2, v3, v4, v5]) [] M h
noncomputable def XB_X9_books_53_26 (v2 : Int) (M : am_M) : am_Rs :=
  some (v2, M)
set_option maxRecDepth 100000 in
theorem rs_X9_books_53_26 {x : Int} {M' : am_M} (v2 : Int) (M : am_M) (h : XB_X9_books_53_26 v2 M = some (x, M')) : am_R none 259 bk_X9_books 26 (am_wr [0, 0, 1, 0, 0, 0, 0] [v2]) [] SH M (am_rv (am_rk 259) x) SH M' :=
  vRegion (sc := none) (sh := SH) (F := F_X9_books_53) (k := 259) (bs := bk_X9_books) (r := (x, M')) (C := fun t lv st M => none) ok_X9_books fs_X9_books_53 (fun t lv st M h => by
    cases h) 29 26 (am_wr [0, 0, 1, 0, 0, 0, 0] [v2]) [] M h
noncomputable def XB_X9_books_53_22 (c11 : Int → Int → Int → am_M → am_Rs) (v1 v2 v3 v4 : Int) (M : am_M) : am_Rs :=
  if wI v4 = 0 then
   c11 v1 (b_or_ v2 0) (v3 + 1) M
  else c11 v1 (b_or_ v2 (b_shl_ 1 v3)) (v3 + 1) M
set_option maxRecDepth 100000 in
theorem rs_X9_books_53_22 {x : Int} {M' : am_M} {c11 : Int → Int → Int → am_M → am_Rs} (h11 : ∀ w1 w2 w3 M, c11 w1 w2 w3 M = some (x, M') → am_R none 259 bk_X9_books 11 (am_wr [56, 1, 1, 1, 0, 0, 0] [w1, w2, w3]) [] SH M (am_rv (am_rk 259) x) SH M') (v1 v2 v3 v4 : Int) (M : am_M) (h : XB_X9_books_53_22 c11 v1 v2 v3 v4 M = some (x, M')) : am_R none 259 bk_X9_books 22 (am_wr [56, 1, 1, 1, 1, 0, 0] [v1, v2, v3, v4]) [] SH M (am_rv (am_rk 259) x) SH M' :=
  vRegion (sc := none) (sh := SH) (F := F_X9_books_53) (k := 259) (bs := bk_X9_books) (r := (x, M')) (C := fun t lv st M => if t = 11 then vCt [56, 1, 1, 1, 0, 0, 0] (un3 c11) lv st M else none) ok_X9_books fs_X9_books_53 (fun t lv st M h => by
    split at h
    · rename_i e; subst e; exact vCt_s (un3_s h11) h
    cases h) 29 22 (am_wr [56, 1, 1, 1, 1, 0, 0] [v1, v2, v3, v4]) [] M h
noncomputable def XB_X9_books_53_e (c11 : Int → Int → Int → am_M → am_Rs) (v1 : Int) (M : am_M) : am_Rs :=
  (X_X9_isRow v1 M).bind fun z1 =>
  if wI z1.1 = 0 then
   some ((-1), z1.2)
  else if wI (z1.2 53 1) = 0 then
   some ((-4), z1.2)
  else if 0 ≤ wI v1 ∧ wI v1 < 6 then
  if wI (z1.2 57 (wI v1).toNat) < 0 then
    (X_X9_find_53 1 z1.2).bind fun z2 =>
    some (z2.1, z2.2)
   else if 0 ≤ wI v1 ∧ wI v1 < 6 then
   if wI ((wI (z1.2 57 (wI v1).toNat)).tmod 3) = 0 then
     (X_X9_areBooks_53 v1 z1.2).bind fun z2 =>
     if wI z2.1 = 0 then
      (X_X9_find_53 3 z2.2).bind fun z3 =>
      some (z3.1, z3.2)
     else c11 v1 0 0 z2.2
    else (X_X9_find_53 5 z1.2).bind fun z2 =>
    some (z2.1, z2.2)
   else none
  else none
set_option maxRecDepth 100000 in
theorem rs_X9_books_53_e {x : Int} {M' : am_M} {c11 : Int → Int → Int → am_M → am_Rs} (h11 : ∀ w1 w2 w3 M, c11 w1 w2 w3 M = some (x, M') → am_R none 259 bk_X9_books 11 (am_wr [56, 1, 1, 1, 0, 0, 0] [w1, w2, w3]) [] SH M (am_rv (am_rk 259) x) SH M') (v1 : Int) (M : am_M) (h : XB_X9_books_53_e c11 v1 M = some (x, M')) : am_R none 259 bk_X9_books 0 (am_ent 7 [.inr (.inr (some 53)), .inl v1]) [] SH M (am_rv (am_rk 259) x) SH M' :=
  vRegion (sc := none) (sh := SH) (F := F_X9_books_53) (k := 259) (bs := bk_X9_books) (r := (x, M')) (C := fun t lv st M => if t = 11 then vCt [56, 1, 1, 1, 0, 0, 0] (un3 c11) lv st M else none) ok_X9_books fs_X9_books_53 (fun t lv st M h => by
    split at h
    · rename_i e; subst e; exact vCt_s (un3_s h11) h
    cases h) 29 0 (am_ent 7 [.inr (.inr (some 53)), .inl v1]) [] M h
noncomputable def XL_X9_books_53_13 (k22 : Int → Int → Int → Int → am_M → am_Rs) : Nat → Int → Int → Int → Int → Int → am_M → am_Rs
  | 0, _, _, _, _, _, _ => none
  | n + 1, v1, v2, v3, v4, v5, M => XB_X9_books_53_13 (XL_X9_books_53_13 k22 n) k22 v1 v2 v3 v4 v5 M
theorem ls_X9_books_53_13 {x : Int} {M' : am_M} {k22 : Int → Int → Int → Int → am_M → am_Rs} (hk22 : ∀ w1 w2 w3 w4 M, k22 w1 w2 w3 w4 M = some (x, M') → am_R none 259 bk_X9_books 22 (am_wr [56, 1, 1, 1, 1, 0, 0] [w1, w2, w3, w4]) [] SH M (am_rv (am_rk 259) x) SH M') : ∀ (n : Nat) (v1 v2 v3 v4 v5 : Int) (M : am_M), XL_X9_books_53_13 k22 n v1 v2 v3 v4 v5 M = some (x, M') → am_R none 259 bk_X9_books 13 (am_wr [56, 1, 1, 1, 1, 1, 0] [v1, v2, v3, v4, v5]) [] SH M (am_rv (am_rk 259) x) SH M'
  | 0, v1, v2, v3, v4, v5, M, h => by cases h
  | n + 1, v1, v2, v3, v4, v5, M, h => rs_X9_books_53_13 (ls_X9_books_53_13 hk22 n) hk22 v1 v2 v3 v4 v5 M h
noncomputable def XL_X9_books_53_11 (k26 : Int → am_M → am_Rs) : Nat → Int → Int → Int → am_M → am_Rs
  | 0, _, _, _, _ => none
  | n + 1, v1, v2, v3, M => XB_X9_books_53_11 (XL_X9_books_53_13 (XB_X9_books_53_22 (XL_X9_books_53_11 k26 n)) 1000) k26 v1 v2 v3 M
theorem ls_X9_books_53_11 {x : Int} {M' : am_M} {k26 : Int → am_M → am_Rs} (hk26 : ∀ w2 M, k26 w2 M = some (x, M') → am_R none 259 bk_X9_books 26 (am_wr [0, 0, 1, 0, 0, 0, 0] [w2]) [] SH M (am_rv (am_rk 259) x) SH M') : ∀ (n : Nat) (v1 v2 v3 : Int) (M : am_M), XL_X9_books_53_11 k26 n v1 v2 v3 M = some (x, M') → am_R none 259 bk_X9_books 11 (am_wr [56, 1, 1, 1, 0, 0, 0] [v1, v2, v3]) [] SH M (am_rv (am_rk 259) x) SH M'
  | 0, v1, v2, v3, M, h => by cases h
  | n + 1, v1, v2, v3, M, h => rs_X9_books_53_11 (ls_X9_books_53_13 (rs_X9_books_53_22 (ls_X9_books_53_11 hk26 n)) 1000) hk26 v1 v2 v3 M h
noncomputable def X_X9_books_53 (v1 : Int) (M : am_M) : am_Rs := XB_X9_books_53_e (XL_X9_books_53_11 (XB_X9_books_53_26) 1000) v1 M
theorem dc_X9_books_53 (v1 : Int) (M M' : am_M) (x : Int) (h : X_X9_books_53 v1 M = some (x, M')) : am_Calls 259 [.inr (.inr (some 53)), .inl v1] SH M (am_rv (am_rk 259) x) SH M' :=
  am_enter pn_X9_books ml_X9_books rfl (Nat.le_of_ble_eq_true rfl) ⟨Nat.le_refl _, Nat.le_refl _⟩ (rs_X9_books_53_e (ls_X9_books_53_11 (rs_X9_books_53_26) 1000) v1 M h)
