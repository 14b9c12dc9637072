noncomputable def F_X8_border_0 : Nat → List am_V → am_M → am_Rs := fun k as M => if k = 155 then (match as with
  | [.inr (.inr (some 0)), .inl a1] => X_X8_tell_0 a1 M
  | _ => none) else if k = 158 then (match as with
  | [.inr (.inr (some 0))] => X_X8_hasNoLand_0 M
  | _ => none) else none
theorem fs_X8_border_0 : am_FS SH F_X8_border_0 := by
  intro k as M x M' h
  unfold F_X8_border_0 at h
  split at h
  · rename_i hk; subst hk
    split at h
    · exact dc_X8_tell_0 _ _ _ _ h
    · cases h
  split at h
  · rename_i hk; subst hk
    split at h
    · exact dc_X8_hasNoLand_0 _ _ _ h
    · cases h
  cases h
noncomputable def X_X8_border_0 (M : am_M) : am_Rs :=
  (X_X8_hasNoLand_0 M).bind fun z1 =>
  if wI z1.1 = 0 then
   (X_X8_tell_0 (z1.2 14 0) z1.2).bind fun z2 =>
   some (z2.2 14 1, z2.2)
  else some ((-4), z1.2)
set_option maxRecDepth 100000 in
theorem dc_X8_border_0 (M M' : am_M) (x : Int) (h : X_X8_border_0 M = some (x, M')) : am_Calls 121 [.inr (.inr (some 0))] SH M (am_rv (am_rk 121) x) SH M' :=
  vCall (F := F_X8_border_0) (C := fun _ _ _ _ => none) (fu := 5) ok_X8_border pn_X8_border ml_X8_border rfl (Nat.le_of_ble_eq_true rfl) fs_X8_border_0 (fun _ _ _ _ h => by cases h) h
noncomputable def F_X8_lain_0 : Nat → List am_V → am_M → am_Rs := fun k as M => if k = 21 then (match as with
  | [.inr (.inr (some 14)), .inl a1] => X_X1_borderAhead_14 a1 M
  | _ => none) else none
theorem fs_X8_lain_0 : am_FS SH F_X8_lain_0 := by
  intro k as M x M' h
  unfold F_X8_lain_0 at h
  split at h
  · rename_i hk; subst hk
    split at h
    · exact dc_X1_borderAhead_14 _ _ _ _ h
    · cases h
  cases h
noncomputable def X_X8_lain_0 (v1 : Int) (M : am_M) : am_Rs :=
  if wI v1 < 0 then
   some ((-1), M)
  else if wI (M 14 0) < wI v1 then
   some ((-1), M)
  else (X_X1_borderAhead_14 v1 M).bind fun z1 =>
  some (z1.1, z1.2)
set_option maxRecDepth 100000 in
theorem dc_X8_lain_0 (v1 : Int) (M M' : am_M) (x : Int) (h : X_X8_lain_0 v1 M = some (x, M')) : am_Calls 122 [.inr (.inr (some 0)), .inl v1] SH M (am_rv (am_rk 122) x) SH M' :=
  vCall (F := F_X8_lain_0) (C := fun _ _ _ _ => none) (fu := 6) ok_X8_lain pn_X8_lain ml_X8_lain rfl (Nat.le_of_ble_eq_true rfl) fs_X8_lain_0 (fun _ _ _ _ h => by cases h) h
noncomputable def F_X8_got_0 : Nat → List am_V → am_M → am_Rs := fun k as M => if k = 22 then (match as with
  | [.inr (.inr (some 14)), .inl a1, .inl a2] => X_X1_paidBy_14 a1 a2 M
  | _ => none) else if k = 159 then (match as with
  | [.inl a0] => X_X8_isCrown a0 M
  | _ => none) else none
theorem fs_X8_got_0 : am_FS SH F_X8_got_0 := by
  intro k as M x M' h
  unfold F_X8_got_0 at h
  split at h
  · rename_i hk; subst hk
    split at h
    · exact dc_X1_paidBy_14 _ _ _ _ _ h
    · cases h
  split at h
  · rename_i hk; subst hk
    split at h
    · exact dc_X8_isCrown _ _ _ _ h
    · cases h
  cases h
noncomputable def XB_X8_got_0_3 (c3 : Int → Int → Int → am_M → am_Rs) (c5 : Int → am_M → am_Rs) (v1 v2 v3 : Int) (M : am_M) : am_Rs :=
  if wI v3 < wI (M 11 0) then
   (X_X1_paidBy_14 v3 v1 M).bind fun z1 =>
   c3 v1 (v2 + z1.1) (v3 + 1) z1.2
  else c5 v2 M
set_option maxRecDepth 100000 in
theorem rs_X8_got_0_3 {x : Int} {M' : am_M} {c3 : Int → Int → Int → am_M → am_Rs} {c5 : Int → am_M → am_Rs} (h3 : ∀ w1 w2 w3 M, c3 w1 w2 w3 M = some (x, M') → am_R none 123 bk_X8_got 3 (am_wr [3, 1, 1, 1] [w1, w2, w3]) [] SH M (am_rv (am_rk 123) x) SH M') (h5 : ∀ w2 M, c5 w2 M = some (x, M') → am_R none 123 bk_X8_got 5 (am_wr [0, 0, 1, 0] [w2]) [] SH M (am_rv (am_rk 123) x) SH M') (v1 v2 v3 : Int) (M : am_M) (h : XB_X8_got_0_3 c3 c5 v1 v2 v3 M = some (x, M')) : am_R none 123 bk_X8_got 3 (am_wr [3, 1, 1, 1] [v1, v2, v3]) [] SH M (am_rv (am_rk 123) x) SH M' :=
  vRegion (sc := none) (sh := SH) (F := F_X8_got_0) (k := 123) (bs := bk_X8_got) (r := (x, M')) (C := fun t lv st M => if t = 3 then vCt [3, 1, 1, 1] (un3 c3) lv st M else if t = 5 then vCt [0, 0, 1, 0] (un1 c5) lv st M else none) ok_X8_got fs_X8_got_0 (fun t lv st M h => by
    split at h
    · rename_i e; subst e; exact vCt_s (un3_s h3) h
    split at h
    · rename_i e; subst e; exact vCt_s (un1_s h5) h
    cases h) 8 3 (am_wr [3, 1, 1, 1] [v1, v2, v3]) [] M h
noncomputable def XB_X8_got_0_5 (v2 : Int) (M : am_M) : am_Rs :=
  some (v2, M)
set_option maxRecDepth 100000 in
theorem rs_X8_got_0_5 {x : Int} {M' : am_M} (v2 : Int) (M : am_M) (h : XB_X8_got_0_5 v2 M = some (x, M')) : am_R none 123 bk_X8_got 5 (am_wr [0, 0, 1, 0] [v2]) [] SH M (am_rv (am_rk 123) x) SH M' :=
  vRegion (sc := none) (sh := SH) (F := F_X8_got_0) (k := 123) (bs := bk_X8_got) (r := (x, M')) (C := fun t lv st M => none) ok_X8_got fs_X8_got_0 (fun t lv st M h => by
    cases h) 8 5 (am_wr [0, 0, 1, 0] [v2]) [] M h
noncomputable def XB_X8_got_0_e (c3 : Int → Int → Int → am_M → am_Rs) (v1 : Int) (M : am_M) : am_Rs :=
  (X_X8_isCrown v1 M).bind fun z1 =>
  if wI z1.1 = 0 then
   some ((-1), z1.2)
  else c3 v1 0 0 z1.2
set_option maxRecDepth 100000 in
theorem rs_X8_got_0_e {x : Int} {M' : am_M} {c3 : Int → Int → Int → am_M → am_Rs} (h3 : ∀ w1 w2 w3 M, c3 w1 w2 w3 M = some (x, M') → am_R none 123 bk_X8_got 3 (am_wr [3, 1, 1, 1] [w1, w2, w3]) [] SH M (am_rv (am_rk 123) x) SH M') (v1 : Int) (M : am_M) (h : XB_X8_got_0_e c3 v1 M = some (x, M')) : am_R none 123 bk_X8_got 0 (am_ent 4 [.inr (.inr (some 0)), .inl v1]) [] SH M (am_rv (am_rk 123) x) SH M' :=
  vRegion (sc := none) (sh := SH) (F := F_X8_got_0) (k := 123) (bs := bk_X8_got) (r := (x, M')) (C := fun t lv st M => if t = 3 then vCt [3, 1, 1, 1] (un3 c3) lv st M else none) ok_X8_got fs_X8_got_0 (fun t lv st M h => by
    split at h
    · rename_i e; subst e; exact vCt_s (un3_s h3) h
    cases h) 8 0 (am_ent 4 [.inr (.inr (some 0)), .inl v1]) [] M h
noncomputable def XL_X8_got_0_3 (k5 : Int → am_M → am_Rs) : Nat → Int → Int → Int → am_M → am_Rs
  | 0, _, _, _, _ => none
  | n + 1, v1, v2, v3, M => XB_X8_got_0_3 (XL_X8_got_0_3 k5 n) k5 v1 v2 v3 M
theorem ls_X8_got_0_3 {x : Int} {M' : am_M} {k5 : Int → am_M → am_Rs} (hk5 : ∀ w2 M, k5 w2 M = some (x, M') → am_R none 123 bk_X8_got 5 (am_wr [0, 0, 1, 0] [w2]) [] SH M (am_rv (am_rk 123) x) SH M') : ∀ (n : Nat) (v1 v2 v3 : Int) (M : am_M), XL_X8_got_0_3 k5 n v1 v2 v3 M = some (x, M') → am_R none 123 bk_X8_got 3 (am_wr [3, 1, 1, 1] [v1, v2, v3]) [] SH M (am_rv (am_rk 123) x) SH M'
  | 0, v1, v2, v3, M, h => by cases h
  | n + 1, v1, v2, v3, M, h => rs_X8_got_0_3 (ls_X8_got_0_3 hk5 n) hk5 v1 v2 v3 M h
noncomputable def X_X8_got_0 (v1 : Int) (M : am_M) : am_Rs := XB_X8_got_0_e (XL_X8_got_0_3 (XB_X8_got_0_5) 1000) v1 M
theorem dc_X8_got_0 (v1 : Int) (M M' : am_M) (x : Int) (h : X_X8_got_0 v1 M = some (x, M')) : am_Calls 123 [.inr (.inr (some 0)), .inl v1] SH M (am_rv (am_rk 123) x) SH M' :=
  am_enter pn_X8_got ml_X8_got rfl (Nat.le_of_ble_eq_true rfl) ⟨Nat.le_refl _, Nat.le_refl _⟩ (rs_X8_got_0_e (ls_X8_got_0_3 (rs_X8_got_0_5) 1000) v1 M h)
noncomputable def X_X1_carry_14_30 (M : am_M) : am_Rs :=
  some (0, (am_cpy (am_cpy (am_cpy (am_cpy (am_up (am_up (am_up (am_up M 30 0 (M 14 0)) 30 1 ((am_up M 30 0 (M 14 0)) 14 1)) 30 2 ((am_up (am_up M 30 0 (M 14 0)) 30 1 ((am_up M 30 0 (M 14 0)) 14 1)) 14 2)) 30 3 ((am_up (am_up (am_up M 30 0 (M 14 0)) 30 1 ((am_up M 30 0 (M 14 0)) 14 1)) 30 2 ((am_up (am_up M 30 0 (M 14 0)) 30 1 ((am_up M 30 0 (M 14 0)) 14 1)) 14 2)) 14 3)) 15 31 0 0 40) 16 32 0 0 40) 17 33 0 0 41) 18 34 0 0 96))
set_option maxRecDepth 100000 in
theorem dc_X1_carry_14_30 (M M' : am_M) (x : Int) (h : X_X1_carry_14_30 M = some (x, M')) : am_Calls 14 [.inr (.inr (some 14)), .inr (.inr (some 30))] SH M (am_rv (am_rk 14) x) SH M' :=
  vCall (F := F_none) (C := fun _ _ _ _ => none) (fu := 6) ok_X1_carry pn_X1_carry ml_X1_carry rfl (Nat.le_of_ble_eq_true rfl) fs_none (fun _ _ _ _ h => by cases h) h
noncomputable def X_X1_carry_14_25 (M : am_M) : am_Rs :=
  some (0, (am_cpy (am_cpy (am_cpy (am_cpy (am_up (am_up (am_up (am_up M 25 0 (M 14 0)) 25 1 ((am_up M 25 0 (M 14 0)) 14 1)) 25 2 ((am_up (am_up M 25 0 (M 14 0)) 25 1 ((am_up M 25 0 (M 14 0)) 14 1)) 14 2)) 25 3 ((am_up (am_up (am_up M 25 0 (M 14 0)) 25 1 ((am_up M 25 0 (M 14 0)) 14 1)) 25 2 ((am_up (am_up M 25 0 (M 14 0)) 25 1 ((am_up M 25 0 (M 14 0)) 14 1)) 14 2)) 14 3)) 15 26 0 0 40) 16 27 0 0 40) 17 28 0 0 41) 18 29 0 0 96))
set_option maxRecDepth 100000 in
theorem dc_X1_carry_14_25 (M M' : am_M) (x : Int) (h : X_X1_carry_14_25 M = some (x, M')) : am_Calls 14 [.inr (.inr (some 14)), .inr (.inr (some 25))] SH M (am_rv (am_rk 14) x) SH M' :=
  vCall (F := F_none) (C := fun _ _ _ _ => none) (fu := 6) ok_X1_carry pn_X1_carry ml_X1_carry rfl (Nat.le_of_ble_eq_true rfl) fs_none (fun _ _ _ _ h => by cases h) h
noncomputable def X_X1_carry_14_20 (M : am_M) : am_Rs :=
  some (0, (am_cpy (am_cpy (am_cpy (am_cpy (am_up (am_up (am_up (am_up M 20 0 (M 14 0)) 20 1 ((am_up M 20 0 (M 14 0)) 14 1)) 20 2 ((am_up (am_up M 20 0 (M 14 0)) 20 1 ((am_up M 20 0 (M 14 0)) 14 1)) 14 2)) 20 3 ((am_up (am_up (am_up M 20 0 (M 14 0)) 20 1 ((am_up M 20 0 (M 14 0)) 14 1)) 20 2 ((am_up (am_up M 20 0 (M 14 0)) 20 1 ((am_up M 20 0 (M 14 0)) 14 1)) 14 2)) 14 3)) 15 21 0 0 40) 16 22 0 0 40) 17 23 0 0 41) 18 24 0 0 96))
set_option maxRecDepth 100000 in
theorem dc_X1_carry_14_20 (M M' : am_M) (x : Int) (h : X_X1_carry_14_20 M = some (x, M')) : am_Calls 14 [.inr (.inr (some 14)), .inr (.inr (some 20))] SH M (am_rv (am_rk 14) x) SH M' :=
  vCall (F := F_none) (C := fun _ _ _ _ => none) (fu := 6) ok_X1_carry pn_X1_carry ml_X1_carry rfl (Nat.le_of_ble_eq_true rfl) fs_none (fun _ _ _ _ h => by cases h) h
noncomputable def F_X8_keep_0 : Nat → List am_V → am_M → am_Rs := fun k as M => if k = 14 then (match as with
  | [.inr (.inr (some 14)), .inr (.inr (some 30))] => X_X1_carry_14_30 M
  | [.inr (.inr (some 14)), .inr (.inr (some 25))] => X_X1_carry_14_25 M
  | [.inr (.inr (some 14)), .inr (.inr (some 20))] => X_X1_carry_14_20 M
  | _ => none) else if k = 158 then (match as with
  | [.inr (.inr (some 0))] => X_X8_hasNoLand_0 M
  | _ => none) else none
theorem fs_X8_keep_0 : am_FS SH F_X8_keep_0 := by
  intro k as M x M' h
  unfold F_X8_keep_0 at h
  split at h
  · rename_i hk; subst hk
    split at h
    · exact dc_X1_carry_14_30 _ _ _ h
    · exact dc_X1_carry_14_25 _ _ _ h
    · exact dc_X1_carry_14_20 _ _ _ h
    · cases h
  split at h
  · rename_i hk; subst hk
    split at h
    · exact dc_X8_hasNoLand_0 _ _ _ h
    · cases h
  cases h
noncomputable def X_X8_keep_0 (v1 : Int) (M : am_M) : am_Rs :=
  if wI v1 < 0 then
   some ((-1), M)
  else if wI v1 < 3 then
   (X_X8_hasNoLand_0 M).bind fun z1 =>
   if wI z1.1 = 0 then
    if wI v1 = 0 then
     (X_X1_carry_14_20 z1.2).bind fun z2 =>
     if 0 ≤ wI v1 ∧ wI v1 < 3 then
     some ((am_up z2.2 35 (wI v1).toNat (z2.2 14 0)) 14 0, (am_up z2.2 35 (wI v1).toNat (z2.2 14 0)))
     else none
    else if wI v1 = 0 + 1 then
     (X_X1_carry_14_25 z1.2).bind fun z2 =>
     if 0 ≤ wI v1 ∧ wI v1 < 3 then
     some ((am_up z2.2 35 (wI v1).toNat (z2.2 14 0)) 14 0, (am_up z2.2 35 (wI v1).toNat (z2.2 14 0)))
     else none
    else if wI v1 = 0 + 1 + 1 then
     (X_X1_carry_14_30 z1.2).bind fun z2 =>
     if 0 ≤ wI v1 ∧ wI v1 < 3 then
     some ((am_up z2.2 35 (wI v1).toNat (z2.2 14 0)) 14 0, (am_up z2.2 35 (wI v1).toNat (z2.2 14 0)))
     else none
    else none
   else some ((-4), z1.2)
  else some ((-1), M)
set_option maxRecDepth 100000 in
theorem dc_X8_keep_0 (v1 : Int) (M M' : am_M) (x : Int) (h : X_X8_keep_0 v1 M = some (x, M')) : am_Calls 124 [.inr (.inr (some 0)), .inl v1] SH M (am_rv (am_rk 124) x) SH M' :=
  vCall (F := F_X8_keep_0) (C := fun _ _ _ _ => none) (fu := 8) ok_X8_keep pn_X8_keep ml_X8_keep rfl (Nat.le_of_ble_eq_true rfl) fs_X8_keep_0 (fun _ _ _ _ h => by cases h) h
noncomputable def X_X1_carry_30_14 (M : am_M) : am_Rs :=
  some (0, (am_cpy (am_cpy (am_cpy (am_cpy (am_up (am_up (am_up (am_up M 14 0 (M 30 0)) 14 1 ((am_up M 14 0 (M 30 0)) 30 1)) 14 2 ((am_up (am_up M 14 0 (M 30 0)) 14 1 ((am_up M 14 0 (M 30 0)) 30 1)) 30 2)) 14 3 ((am_up (am_up (am_up M 14 0 (M 30 0)) 14 1 ((am_up M 14 0 (M 30 0)) 30 1)) 14 2 ((am_up (am_up M 14 0 (M 30 0)) 14 1 ((am_up M 14 0 (M 30 0)) 30 1)) 30 2)) 30 3)) 31 15 0 0 40) 32 16 0 0 40) 33 17 0 0 41) 34 18 0 0 96))
set_option maxRecDepth 100000 in
theorem dc_X1_carry_30_14 (M M' : am_M) (x : Int) (h : X_X1_carry_30_14 M = some (x, M')) : am_Calls 14 [.inr (.inr (some 30)), .inr (.inr (some 14))] SH M (am_rv (am_rk 14) x) SH M' :=
  vCall (F := F_none) (C := fun _ _ _ _ => none) (fu := 6) ok_X1_carry pn_X1_carry ml_X1_carry rfl (Nat.le_of_ble_eq_true rfl) fs_none (fun _ _ _ _ h => by cases h) h
noncomputable def X_X1_carry_25_14 (M : am_M) : am_Rs :=
  some (0, (am_cpy (am_cpy (am_cpy (am_cpy (am_up (am_up (am_up (am_up M 14 0 (M 25 0)) 14 1 ((am_up M 14 0 (M 25 0)) 25 1)) 14 2 ((am_up (am_up M 14 0 (M 25 0)) 14 1 ((am_up M 14 0 (M 25 0)) 25 1)) 25 2)) 14 3 ((am_up (am_up (am_up M 14 0 (M 25 0)) 14 1 ((am_up M 14 0 (M 25 0)) 25 1)) 14 2 ((am_up (am_up M 14 0 (M 25 0)) 14 1 ((am_up M 14 0 (M 25 0)) 25 1)) 25 2)) 25 3)) 26 15 0 0 40) 27 16 0 0 40) 28 17 0 0 41) 29 18 0 0 96))
set_option maxRecDepth 100000 in
theorem dc_X1_carry_25_14 (M M' : am_M) (x : Int) (h : X_X1_carry_25_14 M = some (x, M')) : am_Calls 14 [.inr (.inr (some 25)), .inr (.inr (some 14))] SH M (am_rv (am_rk 14) x) SH M' :=
  vCall (F := F_none) (C := fun _ _ _ _ => none) (fu := 6) ok_X1_carry pn_X1_carry ml_X1_carry rfl (Nat.le_of_ble_eq_true rfl) fs_none (fun _ _ _ _ h => by cases h) h
noncomputable def X_X1_carry_20_14 (M : am_M) : am_Rs :=
  some (0, (am_cpy (am_cpy (am_cpy (am_cpy (am_up (am_up (am_up (am_up M 14 0 (M 20 0)) 14 1 ((am_up M 14 0 (M 20 0)) 20 1)) 14 2 ((am_up (am_up M 14 0 (M 20 0)) 14 1 ((am_up M 14 0 (M 20 0)) 20 1)) 20 2)) 14 3 ((am_up (am_up (am_up M 14 0 (M 20 0)) 14 1 ((am_up M 14 0 (M 20 0)) 20 1)) 14 2 ((am_up (am_up M 14 0 (M 20 0)) 14 1 ((am_up M 14 0 (M 20 0)) 20 1)) 20 2)) 20 3)) 21 15 0 0 40) 22 16 0 0 40) 23 17 0 0 41) 24 18 0 0 96))
set_option maxRecDepth 100000 in
theorem dc_X1_carry_20_14 (M M' : am_M) (x : Int) (h : X_X1_carry_20_14 M = some (x, M')) : am_Calls 14 [.inr (.inr (some 20)), .inr (.inr (some 14))] SH M (am_rv (am_rk 14) x) SH M' :=
  vCall (F := F_none) (C := fun _ _ _ _ => none) (fu := 6) ok_X1_carry pn_X1_carry ml_X1_carry rfl (Nat.le_of_ble_eq_true rfl) fs_none (fun _ _ _ _ h => by cases h) h
noncomputable def F_X8_on_0 : Nat → List am_V → am_M → am_Rs := fun k as M => if k = 14 then (match as with
  | [.inr (.inr (some 30)), .inr (.inr (some 14))] => X_X1_carry_30_14 M
  | [.inr (.inr (some 25)), .inr (.inr (some 14))] => X_X1_carry_25_14 M
  | [.inr (.inr (some 20)), .inr (.inr (some 14))] => X_X1_carry_20_14 M
  | _ => none) else if k = 154 then (match as with
  | [.inr (.inr (some 0)), .inl a1] => X_X8_find_0 a1 M
  | _ => none) else none
theorem fs_X8_on_0 : am_FS SH F_X8_on_0 := by
  intro k as M x M' h
  unfold F_X8_on_0 at h
  split at h
  · rename_i hk; subst hk
    split at h
    · exact dc_X1_carry_30_14 _ _ _ h
    · exact dc_X1_carry_25_14 _ _ _ h
    · exact dc_X1_carry_20_14 _ _ _ h
    · cases h
  split at h
  · rename_i hk; subst hk
    split at h
    · exact dc_X8_find_0 _ _ _ _ h
    · cases h
  cases h
noncomputable def X_X8_on_0 (v1 : Int) (M : am_M) : am_Rs :=
  if wI v1 < 0 then
   some ((-1), M)
  else if wI v1 < 3 then
   if 0 ≤ wI v1 ∧ wI v1 < 3 then
   if wI (M 35 (wI v1).toNat) = (-1) then
     (X_X8_find_0 1 M).bind fun z1 =>
     some (z1.1, z1.2)
    else if wI v1 = 0 then
     (X_X1_carry_20_14 M).bind fun z1 =>
     some (z1.2 14 0, z1.2)
    else if wI v1 = 0 + 1 then
     (X_X1_carry_25_14 M).bind fun z1 =>
     some (z1.2 14 0, z1.2)
    else if wI v1 = 0 + 1 + 1 then
     (X_X1_carry_30_14 M).bind fun z1 =>
     some (z1.2 14 0, z1.2)
    else none
   else none
  else some ((-1), M)
set_option maxRecDepth 100000 in
theorem dc_X8_on_0 (v1 : Int) (M M' : am_M) (x : Int) (h : X_X8_on_0 v1 M = some (x, M')) : am_Calls 125 [.inr (.inr (some 0)), .inl v1] SH M (am_rv (am_rk 125) x) SH M' :=
  vCall (F := F_X8_on_0) (C := fun _ _ _ _ => none) (fu := 8) ok_X8_on pn_X8_on ml_X8_on rfl (Nat.le_of_ble_eq_true rfl) fs_X8_on_0 (fun _ _ _ _ h => by cases h) h
noncomputable def F_X8_moves_0 : Nat → List am_V → am_M → am_Rs := fun k as M => if k = 41 then (match as with
  | [.inr (.inr (some 11)), .inl a1, .inl a2, .inl a3] => X_X2_rudeness_11 a1 a2 a3 M
  | _ => none) else if k = 158 then (match as with
  | [.inr (.inr (some 0))] => X_X8_hasNoLand_0 M
  | _ => none) else none
theorem fs_X8_moves_0 : am_FS SH F_X8_moves_0 := by
  intro k as M x M' h
  unfold F_X8_moves_0 at h
  split at h
  · rename_i hk; subst hk
    split at h
    · exact dc_X2_rudeness_11 _ _ _ _ _ _ h
    · cases h
  split at h
  · rename_i hk; subst hk
    split at h
    · exact dc_X8_hasNoLand_0 _ _ _ h
    · cases h
  cases h
noncomputable def XB_X8_moves_0_3 (c3 : Int → Int → am_M → am_Rs) (c7 : Int → am_M → am_Rs) (v1 v2 : Int) (M : am_M) : am_Rs :=
  if 1 < wI v2 then
   c7 v1 M
  else (X_X2_rudeness_11 (M 14 1) v2 (M 14 0) M).bind fun z1 =>
  if wI z1.1 < 0 then
   c3 v1 (v2 + 1) z1.2
  else c3 (b_or_ v1 (b_shl_ 1 (v2 + 1))) (v2 + 1) z1.2
set_option maxRecDepth 100000 in
theorem rs_X8_moves_0_3 {x : Int} {M' : am_M} {c3 : Int → Int → am_M → am_Rs} {c7 : Int → am_M → am_Rs} (h3 : ∀ w1 w2 M, c3 w1 w2 M = some (x, M') → am_R none 126 bk_X8_moves 3 (am_wr [3, 1, 1] [w1, w2]) [] SH M (am_rv (am_rk 126) x) SH M') (h7 : ∀ w1 M, c7 w1 M = some (x, M') → am_R none 126 bk_X8_moves 7 (am_wr [0, 1, 0] [w1]) [] SH M (am_rv (am_rk 126) x) SH M') (v1 v2 : Int) (M : am_M) (h : XB_X8_moves_0_3 c3 c7 v1 v2 M = some (x, M')) : am_R none 126 bk_X8_moves 3 (am_wr [3, 1, 1] [v1, v2]) [] SH M (am_rv (am_rk 126) x) SH M' :=
  vRegion (sc := none) (sh := SH) (F := F_X8_moves_0) (k := 126) (bs := bk_X8_moves) (r := (x, M')) (C := fun t lv st M => if t = 3 then vCt [3, 1, 1] (un2 c3) lv st M else if t = 7 then vCt [0, 1, 0] (un1 c7) lv st M else none) ok_X8_moves fs_X8_moves_0 (fun t lv st M h => by
    split at h
    · rename_i e; subst e; exact vCt_s (un2_s h3) h
    split at h
    · rename_i e; subst e; exact vCt_s (un1_s h7) h
    cases h) 10 3 (am_wr [3, 1, 1] [v1, v2]) [] M h
noncomputable def XB_X8_moves_0_7 (v1 : Int) (M : am_M) : am_Rs :=
  some (v1, M)
set_option maxRecDepth 100000 in
theorem rs_X8_moves_0_7 {x : Int} {M' : am_M} (v1 : Int) (M : am_M) (h : XB_X8_moves_0_7 v1 M = some (x, M')) : am_R none 126 bk_X8_moves 7 (am_wr [0, 1, 0] [v1]) [] SH M (am_rv (am_rk 126) x) SH M' :=
  vRegion (sc := none) (sh := SH) (F := F_X8_moves_0) (k := 126) (bs := bk_X8_moves) (r := (x, M')) (C := fun t lv st M => none) ok_X8_moves fs_X8_moves_0 (fun t lv st M h => by
    cases h) 10 7 (am_wr [0, 1, 0] [v1]) [] M h
noncomputable def XB_X8_moves_0_e (c3 : Int → Int → am_M → am_Rs) (M : am_M) : am_Rs :=
  (X_X8_hasNoLand_0 M).bind fun z1 =>
  if wI z1.1 = 0 then
   c3 0 (-1) z1.2
  else some ((-4), z1.2)
set_option maxRecDepth 100000 in
theorem rs_X8_moves_0_e {x : Int} {M' : am_M} {c3 : Int → Int → am_M → am_Rs} (h3 : ∀ w1 w2 M, c3 w1 w2 M = some (x, M') → am_R none 126 bk_X8_moves 3 (am_wr [3, 1, 1] [w1, w2]) [] SH M (am_rv (am_rk 126) x) SH M') (M : am_M) (h : XB_X8_moves_0_e c3 M = some (x, M')) : am_R none 126 bk_X8_moves 0 (am_ent 3 [.inr (.inr (some 0))]) [] SH M (am_rv (am_rk 126) x) SH M' :=
  vRegion (sc := none) (sh := SH) (F := F_X8_moves_0) (k := 126) (bs := bk_X8_moves) (r := (x, M')) (C := fun t lv st M => if t = 3 then vCt [3, 1, 1] (un2 c3) lv st M else none) ok_X8_moves fs_X8_moves_0 (fun t lv st M h => by
    split at h
    · rename_i e; subst e; exact vCt_s (un2_s h3) h
    cases h) 10 0 (am_ent 3 [.inr (.inr (some 0))]) [] M h
noncomputable def XL_X8_moves_0_3 (k7 : Int → am_M → am_Rs) : Nat → Int → Int → am_M → am_Rs
  | 0, _, _, _ => none
  | n + 1, v1, v2, M => XB_X8_moves_0_3 (XL_X8_moves_0_3 k7 n) k7 v1 v2 M
theorem ls_X8_moves_0_3 {x : Int} {M' : am_M} {k7 : Int → am_M → am_Rs} (hk7 : ∀ w1 M, k7 w1 M = some (x, M') → am_R none 126 bk_X8_moves 7 (am_wr [0, 1, 0] [w1]) [] SH M (am_rv (am_rk 126) x) SH M') : ∀ (n : Nat) (v1 v2 : Int) (M : am_M), XL_X8_moves_0_3 k7 n v1 v2 M = some (x, M') → am_R none 126 bk_X8_moves 3 (am_wr [3, 1, 1] [v1, v2]) [] SH M (am_rv (am_rk 126) x) SH M'
  | 0, v1, v2, M, h => by cases h
  | n + 1, v1, v2, M, h => rs_X8_moves_0_3 (ls_X8_moves_0_3 hk7 n) hk7 v1 v2 M h
noncomputable def X_X8_moves_0 (M : am_M) : am_Rs := XB_X8_moves_0_e (XL_X8_moves_0_3 (XB_X8_moves_0_7) 1000) M
theorem dc_X8_moves_0 (M M' : am_M) (x : Int) (h : X_X8_moves_0 M = some (x, M')) : am_Calls 126 [.inr (.inr (some 0))] SH M (am_rv (am_rk 126) x) SH M' :=
  am_enter pn_X8_moves ml_X8_moves rfl (Nat.le_of_ble_eq_true rfl) ⟨Nat.le_refl _, Nat.le_refl _⟩ (rs_X8_moves_0_e (ls_X8_moves_0_3 (rs_X8_moves_0_7) 1000) M h)
noncomputable def F_X6_isAllWithin_1 : Nat → List am_V → am_M → am_Rs := fun k as M => if k = 83 then (match as with
  | [.inr (.inr (some 1)), .inl a1] => X_X6_sizeOf_1 a1 M
  | _ => none) else if k = 88 then (match as with
  | [.inr (.inr (some 1)), .inl a1, .inl a2] => X_X6_get_1 a1 a2 M
  | _ => none) else none
theorem fs_X6_isAllWithin_1 : am_FS SH F_X6_isAllWithin_1 := by
  intro k as M x M' h
  unfold F_X6_isAllWithin_1 at h
  split at h
  · rename_i hk; subst hk
    split at h
    · exact dc_X6_sizeOf_1 _ _ _ _ h
    · cases h
  split at h
  · rename_i hk; subst hk
    split at h
    · exact dc_X6_get_1 _ _ _ _ _ h
    · cases h
  cases h
noncomputable def XB_X6_isAllWithin_1_1 (c1 : Int → Int → Int → Int → am_M → am_Rs) (c4 : am_M → am_Rs) (c6 : am_M → am_Rs) (v1 v2 v3 v4 : Int) (M : am_M) : am_Rs :=
  (X_X6_sizeOf_1 v1 M).bind fun z1 =>
  if wI v4 < wI z1.1 then
   (X_X6_get_1 v1 v4 z1.2).bind fun z2 =>
   if wI z2.1 < wI v2 then
    c4 z2.2
   else if wI v3 < wI z2.1 then
    c4 z2.2
   else c1 v1 v2 v3 (v4 + 1) z2.2
  else c6 z1.2
set_option maxRecDepth 100000 in
theorem rs_X6_isAllWithin_1_1 {x : Int} {M' : am_M} {c1 : Int → Int → Int → Int → am_M → am_Rs} {c4 : am_M → am_Rs} {c6 : am_M → am_Rs} (h1 : ∀ w1 w2 w3 w4 M, c1 w1 w2 w3 w4 M = some (x, M') → am_R none 92 bk_X6_isAllWithin 1 (am_wr [4, 1, 1, 1, 1, 0] [w1, w2, w3, w4]) [] SH M (am_rv (am_rk 92) x) SH M') (h4 : ∀ M, c4 M = some (x, M') → am_R none 92 bk_X6_isAllWithin 4 (am_wr [0, 0, 0, 0, 0, 0] []) [] SH M (am_rv (am_rk 92) x) SH M') (h6 : ∀ M, c6 M = some (x, M') → am_R none 92 bk_X6_isAllWithin 6 (am_wr [0, 0, 0, 0, 0, 0] []) [] SH M (am_rv (am_rk 92) x) SH M') (v1 v2 v3 v4 : Int) (M : am_M) (h : XB_X6_isAllWithin_1_1 c1 c4 c6 v1 v2 v3 v4 M = some (x, M')) : am_R none 92 bk_X6_isAllWithin 1 (am_wr [4, 1, 1, 1, 1, 0] [v1, v2, v3, v4]) [] SH M (am_rv (am_rk 92) x) SH M' :=
  vRegion (sc := none) (sh := SH) (F := F_X6_isAllWithin_1) (k := 92) (bs := bk_X6_isAllWithin) (r := (x, M')) (C := fun t lv st M => if t = 1 then vCt [4, 1, 1, 1, 1, 0] (un4 c1) lv st M else if t = 4 then vCt [0, 0, 0, 0, 0, 0] (un0 c4) lv st M else if t = 6 then vCt [0, 0, 0, 0, 0, 0] (un0 c6) lv st M else none) ok_X6_isAllWithin fs_X6_isAllWithin_1 (fun t lv st M h => by
    split at h
    · rename_i e; subst e; exact vCt_s (un4_s h1) h
    split at h
    · rename_i e; subst e; exact vCt_s (un0_s h4) h
    split at h
    · rename_i e; subst e; exact vCt_s (un0_s h6) h
    cases h) 9 1 (am_wr [4, 1, 1, 1, 1, 0] [v1, v2, v3, v4]) [] M h
noncomputable def XB_X6_isAllWithin_1_4 (M : am_M) : am_Rs :=
  some (0, M)
set_option maxRecDepth 100000 in
theorem rs_X6_isAllWithin_1_4 {x : Int} {M' : am_M} (M : am_M) (h : XB_X6_isAllWithin_1_4 M = some (x, M')) : am_R none 92 bk_X6_isAllWithin 4 (am_wr [0, 0, 0, 0, 0, 0] []) [] SH M (am_rv (am_rk 92) x) SH M' :=
  vRegion (sc := none) (sh := SH) (F := F_X6_isAllWithin_1) (k := 92) (bs := bk_X6_isAllWithin) (r := (x, M')) (C := fun t lv st M => none) ok_X6_isAllWithin fs_X6_isAllWithin_1 (fun t lv st M h => by
    cases h) 9 4 (am_wr [0, 0, 0, 0, 0, 0] []) [] M h
noncomputable def XB_X6_isAllWithin_1_6 (M : am_M) : am_Rs :=
  some (1, M)
set_option maxRecDepth 100000 in
theorem rs_X6_isAllWithin_1_6 {x : Int} {M' : am_M} (M : am_M) (h : XB_X6_isAllWithin_1_6 M = some (x, M')) : am_R none 92 bk_X6_isAllWithin 6 (am_wr [0, 0, 0, 0, 0, 0] []) [] SH M (am_rv (am_rk 92) x) SH M' :=
  vRegion (sc := none) (sh := SH) (F := F_X6_isAllWithin_1) (k := 92) (bs := bk_X6_isAllWithin) (r := (x, M')) (C := fun t lv st M => none) ok_X6_isAllWithin fs_X6_isAllWithin_1 (fun t lv st M h => by
    cases h) 9 6 (am_wr [0, 0, 0, 0, 0, 0] []) [] M h
noncomputable def XB_X6_isAllWithin_1_e (c1 : Int → Int → Int → Int → am_M → am_Rs) (v1 v2 v3 : Int) (M : am_M) : am_Rs :=
  c1 v1 v2 v3 0 M
set_option maxRecDepth 100000 in
theorem rs_X6_isAllWithin_1_e {x : Int} {M' : am_M} {c1 : Int → Int → Int → Int → am_M → am_Rs} (h1 : ∀ w1 w2 w3 w4 M, c1 w1 w2 w3 w4 M = some (x, M') → am_R none 92 bk_X6_isAllWithin 1 (am_wr [4, 1, 1, 1, 1, 0] [w1, w2, w3, w4]) [] SH M (am_rv (am_rk 92) x) SH M') (v1 v2 v3 : Int) (M : am_M) (h : XB_X6_isAllWithin_1_e c1 v1 v2 v3 M = some (x, M')) : am_R none 92 bk_X6_isAllWithin 0 (am_ent 6 [.inr (.inr (some 1)), .inl v1, .inl v2, .inl v3]) [] SH M (am_rv (am_rk 92) x) SH M' :=
  vRegion (sc := none) (sh := SH) (F := F_X6_isAllWithin_1) (k := 92) (bs := bk_X6_isAllWithin) (r := (x, M')) (C := fun t lv st M => if t = 1 then vCt [4, 1, 1, 1, 1, 0] (un4 c1) lv st M else none) ok_X6_isAllWithin fs_X6_isAllWithin_1 (fun t lv st M h => by
    split at h
    · rename_i e; subst e; exact vCt_s (un4_s h1) h
    cases h) 9 0 (am_ent 6 [.inr (.inr (some 1)), .inl v1, .inl v2, .inl v3]) [] M h
noncomputable def XL_X6_isAllWithin_1_1 (k4 : am_M → am_Rs) (k6 : am_M → am_Rs) : Nat → Int → Int → Int → Int → am_M → am_Rs
  | 0, _, _, _, _, _ => none
  | n + 1, v1, v2, v3, v4, M => XB_X6_isAllWithin_1_1 (XL_X6_isAllWithin_1_1 k4 k6 n) k4 k6 v1 v2 v3 v4 M
theorem ls_X6_isAllWithin_1_1 {x : Int} {M' : am_M} {k4 : am_M → am_Rs} {k6 : am_M → am_Rs} (hk4 : ∀ M, k4 M = some (x, M') → am_R none 92 bk_X6_isAllWithin 4 (am_wr [0, 0, 0, 0, 0, 0] []) [] SH M (am_rv (am_rk 92) x) SH M') (hk6 : ∀ M, k6 M = some (x, M') → am_R none 92 bk_X6_isAllWithin 6 (am_wr [0, 0, 0, 0, 0, 0] []) [] SH M (am_rv (am_rk 92) x) SH M') : ∀ (n : Nat) (v1 v2 v3 v4 : Int) (M : am_M), XL_X6_isAllWithin_1_1 k4 k6 n v1 v2 v3 v4 M = some (x, M') → am_R none 92 bk_X6_isAllWithin 1 (am_wr [4, 1, 1, 1, 1, 0] [v1, v2, v3, v4]) [] SH M (am_rv (am_rk 92) x) SH M'
  | 0, v1, v2, v3, v4, M, h => by cases h
  | n + 1, v1, v2, v3, v4, M, h => rs_X6_isAllWithin_1_1 (ls_X6_isAllWithin_1_1 hk4 hk6 n) hk4 hk6 v1 v2 v3 v4 M h
noncomputable def X_X6_isAllWithin_1 (v1 v2 v3 : Int) (M : am_M) : am_Rs := XB_X6_isAllWithin_1_e (XL_X6_isAllWithin_1_1 (XB_X6_isAllWithin_1_4) (XB_X6_isAllWithin_1_6) 1000) v1 v2 v3 M
theorem dc_X6_isAllWithin_1 (v1 v2 v3 : Int) (M M' : am_M) (x : Int) (h : X_X6_isAllWithin_1 v1 v2 v3 M = some (x, M')) : am_Calls 92 [.inr (.inr (some 1)), .inl v1, .inl v2, .inl v3] SH M (am_rv (am_rk 92) x) SH M' :=
  am_enter pn_X6_isAllWithin ml_X6_isAllWithin rfl (Nat.le_of_ble_eq_true rfl) ⟨Nat.le_refl _, Nat.le_refl _⟩ (rs_X6_isAllWithin_1_e (ls_X6_isAllWithin_1_1 (rs_X6_isAllWithin_1_4) (rs_X6_isAllWithin_1_6) 1000) v1 v2 v3 M h)
noncomputable def F_X4_firstThatCannotBe_36_1 : Nat → List am_V → am_M → am_Rs := fun k as M => if k = 41 then (match as with
  | [.inr (.inr (some 11)), .inl a1, .inl a2, .inl a3] => X_X2_rudeness_11 a1 a2 a3 M
  | _ => none) else if k = 83 then (match as with
  | [.inr (.inr (some 1)), .inl a1] => X_X6_sizeOf_1 a1 M
  | _ => none) else if k = 88 then (match as with
  | [.inr (.inr (some 1)), .inl a1, .inl a2] => X_X6_get_1 a1 a2 M
  | _ => none) else none
theorem fs_X4_firstThatCannotBe_36_1 : am_FS SH F_X4_firstThatCannotBe_36_1 := by
  intro k as M x M' h
  unfold F_X4_firstThatCannotBe_36_1 at h
  split at h
  · rename_i hk; subst hk
    split at h
    · exact dc_X2_rudeness_11 _ _ _ _ _ _ h
    · cases h
  split at h
  · rename_i hk; subst hk
    split at h
    · exact dc_X6_sizeOf_1 _ _ _ _ h
    · cases h
  split at h
  · rename_i hk; subst hk
    split at h
    · exact dc_X6_get_1 _ _ _ _ _ h
    · cases h
  cases h
noncomputable def XB_X4_firstThatCannotBe_36_1_1 (c1 : Int → Int → Int → Int → am_M → am_Rs) (c5 : Int → am_M → am_Rs) (v2 v3 v4 v5 : Int) (M : am_M) : am_Rs :=
  if wI v5 < wI v3 then
   (X_X6_get_1 v2 v5 M).bind fun z1 =>
   (X_X2_rudeness_11 v4 z1.1 ((z1.2 14 0) + v5) z1.2).bind fun z2 =>
   if wI z2.1 < 0 then
    some (v5, z2.2)
   else c1 v2 v3 (v4 + z1.1) (v5 + 1) z2.2
  else c5 v3 M
set_option maxRecDepth 100000 in
theorem rs_X4_firstThatCannotBe_36_1_1 {x : Int} {M' : am_M} {c1 : Int → Int → Int → Int → am_M → am_Rs} {c5 : Int → am_M → am_Rs} (h1 : ∀ w2 w3 w4 w5 M, c1 w2 w3 w4 w5 M = some (x, M') → am_R none 51 bk_X4_firstThatCannotBe 1 (am_wr [39, 4, 1, 1, 1, 1, 0] [w2, w3, w4, w5]) [] SH M (am_rv (am_rk 51) x) SH M') (h5 : ∀ w3 M, c5 w3 M = some (x, M') → am_R none 51 bk_X4_firstThatCannotBe 5 (am_wr [0, 0, 0, 1, 0, 0, 0] [w3]) [] SH M (am_rv (am_rk 51) x) SH M') (v2 v3 v4 v5 : Int) (M : am_M) (h : XB_X4_firstThatCannotBe_36_1_1 c1 c5 v2 v3 v4 v5 M = some (x, M')) : am_R none 51 bk_X4_firstThatCannotBe 1 (am_wr [39, 4, 1, 1, 1, 1, 0] [v2, v3, v4, v5]) [] SH M (am_rv (am_rk 51) x) SH M' :=
  vRegion (sc := none) (sh := SH) (F := F_X4_firstThatCannotBe_36_1) (k := 51) (bs := bk_X4_firstThatCannotBe) (r := (x, M')) (C := fun t lv st M => if t = 1 then vCt [39, 4, 1, 1, 1, 1, 0] (un4 c1) lv st M else if t = 5 then vCt [0, 0, 0, 1, 0, 0, 0] (un1 c5) lv st M else none) ok_X4_firstThatCannotBe fs_X4_firstThatCannotBe_36_1 (fun t lv st M h => by
    split at h
    · rename_i e; subst e; exact vCt_s (un4_s h1) h
    split at h
    · rename_i e; subst e; exact vCt_s (un1_s h5) h
    cases h) 8 1 (am_wr [39, 4, 1, 1, 1, 1, 0] [v2, v3, v4, v5]) [] M h
noncomputable def XB_X4_firstThatCannotBe_36_1_5 (v3 : Int) (M : am_M) : am_Rs :=
  some (v3, M)
set_option maxRecDepth 100000 in
theorem rs_X4_firstThatCannotBe_36_1_5 {x : Int} {M' : am_M} (v3 : Int) (M : am_M) (h : XB_X4_firstThatCannotBe_36_1_5 v3 M = some (x, M')) : am_R none 51 bk_X4_firstThatCannotBe 5 (am_wr [0, 0, 0, 1, 0, 0, 0] [v3]) [] SH M (am_rv (am_rk 51) x) SH M' :=
  vRegion (sc := none) (sh := SH) (F := F_X4_firstThatCannotBe_36_1) (k := 51) (bs := bk_X4_firstThatCannotBe) (r := (x, M')) (C := fun t lv st M => none) ok_X4_firstThatCannotBe fs_X4_firstThatCannotBe_36_1 (fun t lv st M h => by
    cases h) 8 5 (am_wr [0, 0, 0, 1, 0, 0, 0] [v3]) [] M h
noncomputable def XB_X4_firstThatCannotBe_36_1_e (c1 : Int → Int → Int → Int → am_M → am_Rs) (v2 : Int) (M : am_M) : am_Rs :=
  (X_X6_sizeOf_1 v2 M).bind fun z1 =>
  c1 v2 z1.1 (z1.2 14 1) 0 z1.2
set_option maxRecDepth 100000 in
theorem rs_X4_firstThatCannotBe_36_1_e {x : Int} {M' : am_M} {c1 : Int → Int → Int → Int → am_M → am_Rs} (h1 : ∀ w2 w3 w4 w5 M, c1 w2 w3 w4 w5 M = some (x, M') → am_R none 51 bk_X4_firstThatCannotBe 1 (am_wr [39, 4, 1, 1, 1, 1, 0] [w2, w3, w4, w5]) [] SH M (am_rv (am_rk 51) x) SH M') (v2 : Int) (M : am_M) (h : XB_X4_firstThatCannotBe_36_1_e c1 v2 M = some (x, M')) : am_R none 51 bk_X4_firstThatCannotBe 0 (am_ent 7 [.inr (.inr (some 36)), .inr (.inr (some 1)), .inl v2]) [] SH M (am_rv (am_rk 51) x) SH M' :=
  vRegion (sc := none) (sh := SH) (F := F_X4_firstThatCannotBe_36_1) (k := 51) (bs := bk_X4_firstThatCannotBe) (r := (x, M')) (C := fun t lv st M => if t = 1 then vCt [39, 4, 1, 1, 1, 1, 0] (un4 c1) lv st M else none) ok_X4_firstThatCannotBe fs_X4_firstThatCannotBe_36_1 (fun t lv st M h => by
    split at h
    · rename_i e; subst e; exact vCt_s (un4_s h1) h
    cases h) 8 0 (am_ent 7 [.inr (.inr (some 36)), .inr (.inr (some 1)), .inl v2]) [] M h
noncomputable def XL_X4_firstThatCannotBe_36_1_1 (k5 : Int → am_M → am_Rs) : Nat → Int → Int → Int → Int → am_M → am_Rs
  | 0, _, _, _, _, _ => none
  | n + 1, v2, v3, v4, v5, M => XB_X4_firstThatCannotBe_36_1_1 (XL_X4_firstThatCannotBe_36_1_1 k5 n) k5 v2 v3 v4 v5 M
theorem ls_X4_firstThatCannotBe_36_1_1 {x : Int} {M' : am_M} {k5 : Int → am_M → am_Rs} (hk5 : ∀ w3 M, k5 w3 M = some (x, M') → am_R none 51 bk_X4_firstThatCannotBe 5 (am_wr [0, 0, 0, 1, 0, 0, 0] [w3]) [] SH M (am_rv (am_rk 51) x) SH M') : ∀ (n : Nat) (v2 v3 v4 v5 : Int) (M : am_M), XL_X4_firstThatCannotBe_36_1_1 k5 n v2 v3 v4 v5 M = some (x, M') → am_R none 51 bk_X4_firstThatCannotBe 1 (am_wr [39, 4, 1, 1, 1, 1, 0] [v2, v3, v4, v5]) [] SH M (am_rv (am_rk 51) x) SH M'
  | 0, v2, v3, v4, v5, M, h => by cases h
  | n + 1, v2, v3, v4, v5, M, h => rs_X4_firstThatCannotBe_36_1_1 (ls_X4_firstThatCannotBe_36_1_1 hk5 n) hk5 v2 v3 v4 v5 M h
noncomputable def X_X4_firstThatCannotBe_36_1 (v2 : Int) (M : am_M) : am_Rs := XB_X4_firstThatCannotBe_36_1_e (XL_X4_firstThatCannotBe_36_1_1 (XB_X4_firstThatCannotBe_36_1_5) 1000) v2 M
theorem dc_X4_firstThatCannotBe_36_1 (v2 : Int) (M M' : am_M) (x : Int) (h : X_X4_firstThatCannotBe_36_1 v2 M = some (x, M')) : am_Calls 51 [.inr (.inr (some 36)), .inr (.inr (some 1)), .inl v2] SH M (am_rv (am_rk 51) x) SH M' :=
  am_enter pn_X4_firstThatCannotBe ml_X4_firstThatCannotBe rfl (Nat.le_of_ble_eq_true rfl) ⟨Nat.le_refl _, Nat.le_refl _⟩ (rs_X4_firstThatCannotBe_36_1_e (ls_X4_firstThatCannotBe_36_1_1 (rs_X4_firstThatCannotBe_36_1_5) 1000) v2 M h)
noncomputable def F_X4_borderBehind_36_1 : Nat → List am_V → am_M → am_Rs := fun k as M => if k = 88 then (match as with
  | [.inr (.inr (some 1)), .inl a1, .inl a2] => X_X6_get_1 a1 a2 M
  | _ => none) else none
theorem fs_X4_borderBehind_36_1 : am_FS SH F_X4_borderBehind_36_1 := by
  intro k as M x M' h
  unfold F_X4_borderBehind_36_1 at h
  split at h
  · rename_i hk; subst hk
    split at h
    · exact dc_X6_get_1 _ _ _ _ _ h
    · cases h
  cases h
noncomputable def XB_X4_borderBehind_36_1_1 (c1 : Int → Int → Int → Int → am_M → am_Rs) (c3 : Int → am_M → am_Rs) (v2 v3 v4 v5 : Int) (M : am_M) : am_Rs :=
  if wI v5 < wI v3 then
   (X_X6_get_1 v2 v5 M).bind fun z1 =>
   c1 v2 v3 (v4 + z1.1) (v5 + 1) z1.2
  else c3 v4 M
set_option maxRecDepth 100000 in
theorem rs_X4_borderBehind_36_1_1 {x : Int} {M' : am_M} {c1 : Int → Int → Int → Int → am_M → am_Rs} {c3 : Int → am_M → am_Rs} (h1 : ∀ w2 w3 w4 w5 M, c1 w2 w3 w4 w5 M = some (x, M') → am_R none 52 bk_X4_borderBehind 1 (am_wr [0, 4, 1, 1, 1, 1] [w2, w3, w4, w5]) [] SH M (am_rv (am_rk 52) x) SH M') (h3 : ∀ w4 M, c3 w4 M = some (x, M') → am_R none 52 bk_X4_borderBehind 3 (am_wr [0, 0, 0, 0, 1, 0] [w4]) [] SH M (am_rv (am_rk 52) x) SH M') (v2 v3 v4 v5 : Int) (M : am_M) (h : XB_X4_borderBehind_36_1_1 c1 c3 v2 v3 v4 v5 M = some (x, M')) : am_R none 52 bk_X4_borderBehind 1 (am_wr [0, 4, 1, 1, 1, 1] [v2, v3, v4, v5]) [] SH M (am_rv (am_rk 52) x) SH M' :=
  vRegion (sc := none) (sh := SH) (F := F_X4_borderBehind_36_1) (k := 52) (bs := bk_X4_borderBehind) (r := (x, M')) (C := fun t lv st M => if t = 1 then vCt [0, 4, 1, 1, 1, 1] (un4 c1) lv st M else if t = 3 then vCt [0, 0, 0, 0, 1, 0] (un1 c3) lv st M else none) ok_X4_borderBehind fs_X4_borderBehind_36_1 (fun t lv st M h => by
    split at h
    · rename_i e; subst e; exact vCt_s (un4_s h1) h
    split at h
    · rename_i e; subst e; exact vCt_s (un1_s h3) h
    cases h) 6 1 (am_wr [0, 4, 1, 1, 1, 1] [v2, v3, v4, v5]) [] M h
noncomputable def XB_X4_borderBehind_36_1_3 (v4 : Int) (M : am_M) : am_Rs :=
  some (v4, M)
set_option maxRecDepth 100000 in
theorem rs_X4_borderBehind_36_1_3 {x : Int} {M' : am_M} (v4 : Int) (M : am_M) (h : XB_X4_borderBehind_36_1_3 v4 M = some (x, M')) : am_R none 52 bk_X4_borderBehind 3 (am_wr [0, 0, 0, 0, 1, 0] [v4]) [] SH M (am_rv (am_rk 52) x) SH M' :=
  vRegion (sc := none) (sh := SH) (F := F_X4_borderBehind_36_1) (k := 52) (bs := bk_X4_borderBehind) (r := (x, M')) (C := fun t lv st M => none) ok_X4_borderBehind fs_X4_borderBehind_36_1 (fun t lv st M h => by
    cases h) 6 3 (am_wr [0, 0, 0, 0, 1, 0] [v4]) [] M h
noncomputable def XB_X4_borderBehind_36_1_e (c1 : Int → Int → Int → Int → am_M → am_Rs) (v2 v3 : Int) (M : am_M) : am_Rs :=
  c1 v2 v3 (M 14 1) 0 M
set_option maxRecDepth 100000 in
theorem rs_X4_borderBehind_36_1_e {x : Int} {M' : am_M} {c1 : Int → Int → Int → Int → am_M → am_Rs} (h1 : ∀ w2 w3 w4 w5 M, c1 w2 w3 w4 w5 M = some (x, M') → am_R none 52 bk_X4_borderBehind 1 (am_wr [0, 4, 1, 1, 1, 1] [w2, w3, w4, w5]) [] SH M (am_rv (am_rk 52) x) SH M') (v2 v3 : Int) (M : am_M) (h : XB_X4_borderBehind_36_1_e c1 v2 v3 M = some (x, M')) : am_R none 52 bk_X4_borderBehind 0 (am_ent 6 [.inr (.inr (some 36)), .inr (.inr (some 1)), .inl v2, .inl v3]) [] SH M (am_rv (am_rk 52) x) SH M' :=
  vRegion (sc := none) (sh := SH) (F := F_X4_borderBehind_36_1) (k := 52) (bs := bk_X4_borderBehind) (r := (x, M')) (C := fun t lv st M => if t = 1 then vCt [0, 4, 1, 1, 1, 1] (un4 c1) lv st M else none) ok_X4_borderBehind fs_X4_borderBehind_36_1 (fun t lv st M h => by
    split at h
    · rename_i e; subst e; exact vCt_s (un4_s h1) h
    cases h) 6 0 (am_ent 6 [.inr (.inr (some 36)), .inr (.inr (some 1)), .inl v2, .inl v3]) [] M h
noncomputable def XL_X4_borderBehind_36_1_1 (k3 : Int → am_M → am_Rs) : Nat → Int → Int → Int → Int → am_M → am_Rs
  | 0, _, _, _, _, _ => none
  | n + 1, v2, v3, v4, v5, M => XB_X4_borderBehind_36_1_1 (XL_X4_borderBehind_36_1_1 k3 n) k3 v2 v3 v4 v5 M
theorem ls_X4_borderBehind_36_1_1 {x : Int} {M' : am_M} {k3 : Int → am_M → am_Rs} (hk3 : ∀ w4 M, k3 w4 M = some (x, M') → am_R none 52 bk_X4_borderBehind 3 (am_wr [0, 0, 0, 0, 1, 0] [w4]) [] SH M (am_rv (am_rk 52) x) SH M') : ∀ (n : Nat) (v2 v3 v4 v5 : Int) (M : am_M), XL_X4_borderBehind_36_1_1 k3 n v2 v3 v4 v5 M = some (x, M') → am_R none 52 bk_X4_borderBehind 1 (am_wr [0, 4, 1, 1, 1, 1] [v2, v3, v4, v5]) [] SH M (am_rv (am_rk 52) x) SH M'
  | 0, v2, v3, v4, v5, M, h => by cases h
  | n + 1, v2, v3, v4, v5, M, h => rs_X4_borderBehind_36_1_1 (ls_X4_borderBehind_36_1_1 hk3 n) hk3 v2 v3 v4 v5 M h
noncomputable def X_X4_borderBehind_36_1 (v2 v3 : Int) (M : am_M) : am_Rs := XB_X4_borderBehind_36_1_e (XL_X4_borderBehind_36_1_1 (XB_X4_borderBehind_36_1_3) 1000) v2 v3 M
theorem dc_X4_borderBehind_36_1 (v2 v3 : Int) (M M' : am_M) (x : Int) (h : X_X4_borderBehind_36_1 v2 v3 M = some (x, M')) : am_Calls 52 [.inr (.inr (some 36)), .inr (.inr (some 1)), .inl v2, .inl v3] SH M (am_rv (am_rk 52) x) SH M' :=
  am_enter pn_X4_borderBehind ml_X4_borderBehind rfl (Nat.le_of_ble_eq_true rfl) ⟨Nat.le_refl _, Nat.le_refl _⟩ (rs_X4_borderBehind_36_1_e (ls_X4_borderBehind_36_1_1 (rs_X4_borderBehind_36_1_3) 1000) v2 v3 M h)
noncomputable def F_X8_judge_0 : Nat → List am_V → am_M → am_Rs := fun k as M => if k = 51 then (match as with
  | [.inr (.inr (some 36)), .inr (.inr (some 1)), .inl a2] => X_X4_firstThatCannotBe_36_1 a2 M
  | _ => none) else if k = 52 then (match as with
  | [.inr (.inr (some 36)), .inr (.inr (some 1)), .inl a2, .inl a3] => X_X4_borderBehind_36_1 a2 a3 M
  | _ => none) else if k = 81 then (match as with
  | [.inr (.inr (some 1)), .inl a1] => X_X6_isNumber_1 a1 M
  | _ => none) else if k = 82 then (match as with
  | [.inr (.inr (some 1)), .inl a1] => X_X6_isThere_1 a1 M
  | _ => none) else if k = 92 then (match as with
  | [.inr (.inr (some 1)), .inl a1, .inl a2, .inl a3] => X_X6_isAllWithin_1 a1 a2 a3 M
  | _ => none) else if k = 154 then (match as with
  | [.inr (.inr (some 0)), .inl a1] => X_X8_find_0 a1 M
  | _ => none) else if k = 155 then (match as with
  | [.inr (.inr (some 0)), .inl a1] => X_X8_tell_0 a1 M
  | _ => none) else if k = 158 then (match as with
  | [.inr (.inr (some 0))] => X_X8_hasNoLand_0 M
  | _ => none) else none
theorem fs_X8_judge_0 : am_FS SH F_X8_judge_0 := by
  intro k as M x M' h
  unfold F_X8_judge_0 at h
  split at h
  · rename_i hk; subst hk
    split at h
    · exact dc_X4_firstThatCannotBe_36_1 _ _ _ _ h
    · cases h
  split at h
  · rename_i hk; subst hk
    split at h
    · exact dc_X4_borderBehind_36_1 _ _ _ _ _ h
    · cases h
  split at h
  · rename_i hk; subst hk
    split at h
    · exact dc_X6_isNumber_1 _ _ _ _ h
    · cases h
  split at h
  · rename_i hk; subst hk
    split at h
    · exact dc_X6_isThere_1 _ _ _ _ h
    · cases h
  split at h
  · rename_i hk; subst hk
    split at h
    · exact dc_X6_isAllWithin_1 _ _ _ _ _ _ h
    · cases h
  split at h
  · rename_i hk; subst hk
    split at h
    · exact dc_X8_find_0 _ _ _ _ h
    · cases h
  split at h
  · rename_i hk; subst hk
    split at h
    · exact dc_X8_tell_0 _ _ _ _ h
    · cases h
  split at h
  · rename_i hk; subst hk
    split at h
    · exact dc_X8_hasNoLand_0 _ _ _ h
    · cases h
  cases h
noncomputable def X_X8_judge_0 (v1 : Int) (M : am_M) : am_Rs :=
  (X_X6_isNumber_1 v1 M).bind fun z1 =>
  if wI z1.1 = 0 then
   some ((-1), z1.2)
  else (X_X8_hasNoLand_0 z1.2).bind fun z2 =>
  if wI z2.1 = 0 then
   (X_X6_isThere_1 v1 z2.2).bind fun z3 =>
   if wI z3.1 = 0 then
    (X_X8_find_0 1 z3.2).bind fun z4 =>
    some (z4.1, z4.2)
   else (X_X6_isAllWithin_1 v1 (-1) 1 z3.2).bind fun z4 =>
   if wI z4.1 = 0 then
    (X_X8_find_0 3 z4.2).bind fun z5 =>
    some (z5.1, z5.2)
   else (X_X4_firstThatCannotBe_36_1 v1 z4.2).bind fun z5 =>
   (X_X4_borderBehind_36_1 v1 z5.1 z5.2).bind fun z6 =>
   (X_X8_tell_0 z6.1 z6.2).bind fun z7 =>
   some (z5.1, z7.2)
  else some ((-4), z2.2)
set_option maxRecDepth 100000 in
theorem dc_X8_judge_0 (v1 : Int) (M M' : am_M) (x : Int) (h : X_X8_judge_0 v1 M = some (x, M')) : am_Calls 127 [.inr (.inr (some 0)), .inl v1] SH M (am_rv (am_rk 127) x) SH M' :=
  vCall (F := F_X8_judge_0) (C := fun _ _ _ _ => none) (fu := 11) ok_X8_judge pn_X8_judge ml_X8_judge rfl (Nat.le_of_ble_eq_true rfl) fs_X8_judge_0 (fun _ _ _ _ h => by cases h) h
noncomputable def F_X8_canGo_0 : Nat → List am_V → am_M → am_Rs := fun k as M => if k = 51 then (match as with
  | [.inr (.inr (some 36)), .inr (.inr (some 1)), .inl a2] => X_X4_firstThatCannotBe_36_1 a2 M
  | _ => none) else if k = 83 then (match as with
  | [.inr (.inr (some 1)), .inl a1] => X_X6_sizeOf_1 a1 M
  | _ => none) else if k = 92 then (match as with
  | [.inr (.inr (some 1)), .inl a1, .inl a2, .inl a3] => X_X6_isAllWithin_1 a1 a2 a3 M
  | _ => none) else none
theorem fs_X8_canGo_0 : am_FS SH F_X8_canGo_0 := by
  intro k as M x M' h
  unfold F_X8_canGo_0 at h
  split at h
  · rename_i hk; subst hk
    split at h
    · exact dc_X4_firstThatCannotBe_36_1 _ _ _ _ h
    · cases h
  split at h
  · rename_i hk; subst hk
    split at h
    · exact dc_X6_sizeOf_1 _ _ _ _ h
    · cases h
  split at h
  · rename_i hk; subst hk
    split at h
    · exact dc_X6_isAllWithin_1 _ _ _ _ _ _ h
    · cases h
  cases h
noncomputable def X_X8_canGo_0 (v1 : Int) (M : am_M) : am_Rs :=
  (X_X6_isAllWithin_1 v1 (-1) 1 M).bind fun z1 =>
  if wI z1.1 = 0 then
   some (0, z1.2)
  else (X_X4_firstThatCannotBe_36_1 v1 z1.2).bind fun z2 =>
  (X_X6_sizeOf_1 v1 z2.2).bind fun z3 =>
  if wI z2.1 = wI z3.1 then
   some (1, z3.2)
  else some (0, z3.2)
set_option maxRecDepth 100000 in
theorem dc_X8_canGo_0 (v1 : Int) (M M' : am_M) (x : Int) (h : X_X8_canGo_0 v1 M = some (x, M')) : am_Calls 163 [.inr (.inr (some 0)), .inl v1] SH M (am_rv (am_rk 163) x) SH M' :=
  vCall (F := F_X8_canGo_0) (C := fun _ _ _ _ => none) (fu := 7) ok_X8_canGo pn_X8_canGo ml_X8_canGo rfl (Nat.le_of_ble_eq_true rfl) fs_X8_canGo_0 (fun _ _ _ _ h => by cases h) h
noncomputable def F_X4_rudenessOf_36_1 : Nat → List am_V → am_M → am_Rs := fun k as M => if k = 41 then (match as with
  | [.inr (.inr (some 11)), .inl a1, .inl a2, .inl a3] => X_X2_rudeness_11 a1 a2 a3 M
  | _ => none) else if k = 83 then (match as with
  | [.inr (.inr (some 1)), .inl a1] => X_X6_sizeOf_1 a1 M
  | _ => none) else if k = 88 then (match as with
  | [.inr (.inr (some 1)), .inl a1, .inl a2] => X_X6_get_1 a1 a2 M
  | _ => none) else none
theorem fs_X4_rudenessOf_36_1 : am_FS SH F_X4_rudenessOf_36_1 := by
  intro k as M x M' h
  unfold F_X4_rudenessOf_36_1 at h
  split at h
  · rename_i hk; subst hk
    split at h
    · exact dc_X2_rudeness_11 _ _ _ _ _ _ h
    · cases h
  split at h
  · rename_i hk; subst hk
    split at h
    · exact dc_X6_sizeOf_1 _ _ _ _ h
    · cases h
  split at h
  · rename_i hk; subst hk
    split at h
    · exact dc_X6_get_1 _ _ _ _ _ h
    · cases h
  cases h
noncomputable def XB_X4_rudenessOf_36_1_1 (c1 : Int → Int → Int → Int → am_M → am_Rs) (c3 : Int → am_M → am_Rs) (v2 v3 v4 v5 : Int) (M : am_M) : am_Rs :=
  (X_X6_sizeOf_1 v2 M).bind fun z1 =>
  if wI v5 < wI z1.1 then
   (X_X6_get_1 v2 v5 z1.2).bind fun z2 =>
   (X_X2_rudeness_11 v4 z2.1 ((z2.2 14 0) + v5) z2.2).bind fun z3 =>
   c1 v2 (v3 + z3.1) (v4 + z2.1) (v5 + 1) z3.2
  else c3 v3 z1.2
set_option maxRecDepth 100000 in
theorem rs_X4_rudenessOf_36_1_1 {x : Int} {M' : am_M} {c1 : Int → Int → Int → Int → am_M → am_Rs} {c3 : Int → am_M → am_Rs} (h1 : ∀ w2 w3 w4 w5 M, c1 w2 w3 w4 w5 M = some (x, M') → am_R none 53 bk_X4_rudenessOf 1 (am_wr [39, 4, 1, 1, 1, 1, 0] [w2, w3, w4, w5]) [] SH M (am_rv (am_rk 53) x) SH M') (h3 : ∀ w3 M, c3 w3 M = some (x, M') → am_R none 53 bk_X4_rudenessOf 3 (am_wr [0, 0, 0, 1, 0, 0, 0] [w3]) [] SH M (am_rv (am_rk 53) x) SH M') (v2 v3 v4 v5 : Int) (M : am_M) (h : XB_X4_rudenessOf_36_1_1 c1 c3 v2 v3 v4 v5 M = some (x, M')) : am_R none 53 bk_X4_rudenessOf 1 (am_wr [39, 4, 1, 1, 1, 1, 0] [v2, v3, v4, v5]) [] SH M (am_rv (am_rk 53) x) SH M' :=
  vRegion (sc := none) (sh := SH) (F := F_X4_rudenessOf_36_1) (k := 53) (bs := bk_X4_rudenessOf) (r := (x, M')) (C := fun t lv st M => if t = 1 then vCt [39, 4, 1, 1, 1, 1, 0] (un4 c1) lv st M else if t = 3 then vCt [0, 0, 0, 1, 0, 0, 0] (un1 c3) lv st M else none) ok_X4_rudenessOf fs_X4_rudenessOf_36_1 (fun t lv st M h => by
    split at h
    · rename_i e; subst e; exact vCt_s (un4_s h1) h
    split at h
    · rename_i e; subst e; exact vCt_s (un1_s h3) h
    cases h) 6 1 (am_wr [39, 4, 1, 1, 1, 1, 0] [v2, v3, v4, v5]) [] M h
noncomputable def XB_X4_rudenessOf_36_1_3 (v3 : Int) (M : am_M) : am_Rs :=
  some (v3, M)
set_option maxRecDepth 100000 in
theorem rs_X4_rudenessOf_36_1_3 {x : Int} {M' : am_M} (v3 : Int) (M : am_M) (h : XB_X4_rudenessOf_36_1_3 v3 M = some (x, M')) : am_R none 53 bk_X4_rudenessOf 3 (am_wr [0, 0, 0, 1, 0, 0, 0] [v3]) [] SH M (am_rv (am_rk 53) x) SH M' :=
  vRegion (sc := none) (sh := SH) (F := F_X4_rudenessOf_36_1) (k := 53) (bs := bk_X4_rudenessOf) (r := (x, M')) (C := fun t lv st M => none) ok_X4_rudenessOf fs_X4_rudenessOf_36_1 (fun t lv st M h => by
    cases h) 6 3 (am_wr [0, 0, 0, 1, 0, 0, 0] [v3]) [] M h
noncomputable def XB_X4_rudenessOf_36_1_e (c1 : Int → Int → Int → Int → am_M → am_Rs) (v2 : Int) (M : am_M) : am_Rs :=
  c1 v2 0 (M 14 1) 0 M
set_option maxRecDepth 100000 in
theorem rs_X4_rudenessOf_36_1_e {x : Int} {M' : am_M} {c1 : Int → Int → Int → Int → am_M → am_Rs} (h1 : ∀ w2 w3 w4 w5 M, c1 w2 w3 w4 w5 M = some (x, M') → am_R none 53 bk_X4_rudenessOf 1 (am_wr [39, 4, 1, 1, 1, 1, 0] [w2, w3, w4, w5]) [] SH M (am_rv (am_rk 53) x) SH M') (v2 : Int) (M : am_M) (h : XB_X4_rudenessOf_36_1_e c1 v2 M = some (x, M')) : am_R none 53 bk_X4_rudenessOf 0 (am_ent 7 [.inr (.inr (some 36)), .inr (.inr (some 1)), .inl v2]) [] SH M (am_rv (am_rk 53) x) SH M' :=
  vRegion (sc := none) (sh := SH) (F := F_X4_rudenessOf_36_1) (k := 53) (bs := bk_X4_rudenessOf) (r := (x, M')) (C := fun t lv st M => if t = 1 then vCt [39, 4, 1, 1, 1, 1, 0] (un4 c1) lv st M else none) ok_X4_rudenessOf fs_X4_rudenessOf_36_1 (fun t lv st M h => by
    split at h
    · rename_i e; subst e; exact vCt_s (un4_s h1) h
    cases h) 6 0 (am_ent 7 [.inr (.inr (some 36)), .inr (.inr (some 1)), .inl v2]) [] M h
noncomputable def XL_X4_rudenessOf_36_1_1 (k3 : Int → am_M → am_Rs) : Nat → Int → Int → Int → Int → am_M → am_Rs
  | 0, _, _, _, _, _ => none
  | n + 1, v2, v3, v4, v5, M => XB_X4_rudenessOf_36_1_1 (XL_X4_rudenessOf_36_1_1 k3 n) k3 v2 v3 v4 v5 M
theorem ls_X4_rudenessOf_36_1_1 {x : Int} {M' : am_M} {k3 : Int → am_M → am_Rs} (hk3 : ∀ w3 M, k3 w3 M = some (x, M') → am_R none 53 bk_X4_rudenessOf 3 (am_wr [0, 0, 0, 1, 0, 0, 0] [w3]) [] SH M (am_rv (am_rk 53) x) SH M') : ∀ (n : Nat) (v2 v3 v4 v5 : Int) (M : am_M), XL_X4_rudenessOf_36_1_1 k3 n v2 v3 v4 v5 M = some (x, M') → am_R none 53 bk_X4_rudenessOf 1 (am_wr [39, 4, 1, 1, 1, 1, 0] [v2, v3, v4, v5]) [] SH M (am_rv (am_rk 53) x) SH M'
  | 0, v2, v3, v4, v5, M, h => by cases h
  | n + 1, v2, v3, v4, v5, M, h => rs_X4_rudenessOf_36_1_1 (ls_X4_rudenessOf_36_1_1 hk3 n) hk3 v2 v3 v4 v5 M h
noncomputable def X_X4_rudenessOf_36_1 (v2 : Int) (M : am_M) : am_Rs := XB_X4_rudenessOf_36_1_e (XL_X4_rudenessOf_36_1_1 (XB_X4_rudenessOf_36_1_3) 1000) v2 M
theorem dc_X4_rudenessOf_36_1 (v2 : Int) (M M' : am_M) (x : Int) (h : X_X4_rudenessOf_36_1 v2 M = some (x, M')) : am_Calls 53 [.inr (.inr (some 36)), .inr (.inr (some 1)), .inl v2] SH M (am_rv (am_rk 53) x) SH M' :=
  am_enter pn_X4_rudenessOf ml_X4_rudenessOf rfl (Nat.le_of_ble_eq_true rfl) ⟨Nat.le_refl _, Nat.le_refl _⟩ (rs_X4_rudenessOf_36_1_e (ls_X4_rudenessOf_36_1_1 (rs_X4_rudenessOf_36_1_3) 1000) v2 M h)
noncomputable def F_X8_rude_0 : Nat → List am_V → am_M → am_Rs := fun k as M => if k = 53 then (match as with
  | [.inr (.inr (some 36)), .inr (.inr (some 1)), .inl a2] => X_X4_rudenessOf_36_1 a2 M
  | _ => none) else if k = 81 then (match as with
  | [.inr (.inr (some 1)), .inl a1] => X_X6_isNumber_1 a1 M
  | _ => none) else if k = 82 then (match as with
  | [.inr (.inr (some 1)), .inl a1] => X_X6_isThere_1 a1 M
  | _ => none) else if k = 154 then (match as with
  | [.inr (.inr (some 0)), .inl a1] => X_X8_find_0 a1 M
  | _ => none) else if k = 158 then (match as with
  | [.inr (.inr (some 0))] => X_X8_hasNoLand_0 M
  | _ => none) else if k = 163 then (match as with
  | [.inr (.inr (some 0)), .inl a1] => X_X8_canGo_0 a1 M
  | _ => none) else none
theorem fs_X8_rude_0 : am_FS SH F_X8_rude_0 := by
  intro k as M x M' h
  unfold F_X8_rude_0 at h
  split at h
  · rename_i hk; subst hk
    split at h
    · exact dc_X4_rudenessOf_36_1 _ _ _ _ h
    · cases h
  split at h
  · rename_i hk; subst hk
    split at h
    · exact dc_X6_isNumber_1 _ _ _ _ h
    · cases h
  split at h
  · rename_i hk; subst hk
    split at h
    · exact dc_X6_isThere_1 _ _ _ _ h
    · cases h
  split at h
  · rename_i hk; subst hk
    split at h
    · exact dc_X8_find_0 _ _ _ _ h
    · cases h
  split at h
  · rename_i hk; subst hk
    split at h
    · exact dc_X8_hasNoLand_0 _ _ _ h
    · cases h
  split at h
  · rename_i hk; subst hk
    split at h
    · exact dc_X8_canGo_0 _ _ _ _ h
    · cases h
  cases h
noncomputable def X_X8_rude_0 (v1 : Int) (M : am_M) : am_Rs :=
  (X_X6_isNumber_1 v1 M).bind fun z1 =>
  if wI z1.1 = 0 then
   some ((-1), z1.2)
  else (X_X8_hasNoLand_0 z1.2).bind fun z2 =>
  if wI z2.1 = 0 then
   (X_X6_isThere_1 v1 z2.2).bind fun z3 =>
   if wI z3.1 = 0 then
    (X_X8_find_0 1 z3.2).bind fun z4 =>
    some (z4.1, z4.2)
   else (X_X8_canGo_0 v1 z3.2).bind fun z4 =>
   if wI z4.1 = 0 then
    (X_X8_find_0 3 z4.2).bind fun z5 =>
    some (z5.1, z5.2)
   else (X_X4_rudenessOf_36_1 v1 z4.2).bind fun z5 =>
   some (z5.1, z5.2)
  else some ((-4), z2.2)
set_option maxRecDepth 100000 in
theorem dc_X8_rude_0 (v1 : Int) (M M' : am_M) (x : Int) (h : X_X8_rude_0 v1 M = some (x, M')) : am_Calls 128 [.inr (.inr (some 0)), .inl v1] SH M (am_rv (am_rk 128) x) SH M' :=
  vCall (F := F_X8_rude_0) (C := fun _ _ _ _ => none) (fu := 11) ok_X8_rude pn_X8_rude ml_X8_rude rfl (Nat.le_of_ble_eq_true rfl) fs_X8_rude_0 (fun _ _ _ _ h => by cases h) h
noncomputable def F_X4_tollOfStrip_36 : Nat → List am_V → am_M → am_Rs := fun k as M => if k = 24 then (match as with
  | [.inr (.inr (some 14)), .inr (.inr (some 11)), .inl a2, .inl a3] => X_X1_dueOfBoth_14_11 a2 a3 M
  | _ => none) else none
theorem fs_X4_tollOfStrip_36 : am_FS SH F_X4_tollOfStrip_36 := by
  intro k as M x M' h
  unfold F_X4_tollOfStrip_36 at h
  split at h
  · rename_i hk; subst hk
    split at h
    · exact dc_X1_dueOfBoth_14_11 _ _ _ _ _ h
    · cases h
  cases h
noncomputable def XB_X4_tollOfStrip_36_1 (c1 : Int → Int → am_M → am_Rs) (c3 : am_M → am_Rs) (v1 v2 : Int) (M : am_M) : am_Rs :=
  if wI v2 < 13 then
   (X_X1_dueOfBoth_14_11 v1 v2 M).bind fun z1 =>
   if 0 ≤ wI v2 ∧ wI v2 < 13 then
   c1 v1 (v2 + 1) (am_up z1.2 37 (wI v2).toNat z1.1)
   else none
  else c3 M
set_option maxRecDepth 100000 in
theorem rs_X4_tollOfStrip_36_1 {x : Int} {M' : am_M} {c1 : Int → Int → am_M → am_Rs} {c3 : am_M → am_Rs} (h1 : ∀ w1 w2 M, c1 w1 w2 M = some (x, M') → am_R none 56 bk_X4_tollOfStrip 1 (am_wr [39, 1, 1] [w1, w2]) [] SH M (am_rv (am_rk 56) x) SH M') (h3 : ∀ M, c3 M = some (x, M') → am_R none 56 bk_X4_tollOfStrip 3 (am_wr [0, 0, 0] []) [] SH M (am_rv (am_rk 56) x) SH M') (v1 v2 : Int) (M : am_M) (h : XB_X4_tollOfStrip_36_1 c1 c3 v1 v2 M = some (x, M')) : am_R none 56 bk_X4_tollOfStrip 1 (am_wr [39, 1, 1] [v1, v2]) [] SH M (am_rv (am_rk 56) x) SH M' :=
  vRegion (sc := none) (sh := SH) (F := F_X4_tollOfStrip_36) (k := 56) (bs := bk_X4_tollOfStrip) (r := (x, M')) (C := fun t lv st M => if t = 1 then vCt [39, 1, 1] (un2 c1) lv st M else if t = 3 then vCt [0, 0, 0] (un0 c3) lv st M else none) ok_X4_tollOfStrip fs_X4_tollOfStrip_36 (fun t lv st M h => by
    split at h
    · rename_i e; subst e; exact vCt_s (un2_s h1) h
    split at h
    · rename_i e; subst e; exact vCt_s (un0_s h3) h
    cases h) 6 1 (am_wr [39, 1, 1] [v1, v2]) [] M h
noncomputable def XB_X4_tollOfStrip_36_3 (M : am_M) : am_Rs :=
  some (0, M)
set_option maxRecDepth 100000 in
theorem rs_X4_tollOfStrip_36_3 {x : Int} {M' : am_M} (M : am_M) (h : XB_X4_tollOfStrip_36_3 M = some (x, M')) : am_R none 56 bk_X4_tollOfStrip 3 (am_wr [0, 0, 0] []) [] SH M (am_rv (am_rk 56) x) SH M' :=
  vRegion (sc := none) (sh := SH) (F := F_X4_tollOfStrip_36) (k := 56) (bs := bk_X4_tollOfStrip) (r := (x, M')) (C := fun t lv st M => none) ok_X4_tollOfStrip fs_X4_tollOfStrip_36 (fun t lv st M h => by
    cases h) 6 3 (am_wr [0, 0, 0] []) [] M h
noncomputable def XB_X4_tollOfStrip_36_e (c1 : Int → Int → am_M → am_Rs) (v1 : Int) (M : am_M) : am_Rs :=
  c1 v1 0 M
set_option maxRecDepth 100000 in
theorem rs_X4_tollOfStrip_36_e {x : Int} {M' : am_M} {c1 : Int → Int → am_M → am_Rs} (h1 : ∀ w1 w2 M, c1 w1 w2 M = some (x, M') → am_R none 56 bk_X4_tollOfStrip 1 (am_wr [39, 1, 1] [w1, w2]) [] SH M (am_rv (am_rk 56) x) SH M') (v1 : Int) (M : am_M) (h : XB_X4_tollOfStrip_36_e c1 v1 M = some (x, M')) : am_R none 56 bk_X4_tollOfStrip 0 (am_ent 3 [.inr (.inr (some 36)), .inl v1]) [] SH M (am_rv (am_rk 56) x) SH M' :=
  vRegion (sc := none) (sh := SH) (F := F_X4_tollOfStrip_36) (k := 56) (bs := bk_X4_tollOfStrip) (r := (x, M')) (C := fun t lv st M => if t = 1 then vCt [39, 1, 1] (un2 c1) lv st M else none) ok_X4_tollOfStrip fs_X4_tollOfStrip_36 (fun t lv st M h => by
    split at h
    · rename_i e; subst e; exact vCt_s (un2_s h1) h
    cases h) 6 0 (am_ent 3 [.inr (.inr (some 36)), .inl v1]) [] M h
noncomputable def XL_X4_tollOfStrip_36_1 (k3 : am_M → am_Rs) : Nat → Int → Int → am_M → am_Rs
  | 0, _, _, _ => none
  | n + 1, v1, v2, M => XB_X4_tollOfStrip_36_1 (XL_X4_tollOfStrip_36_1 k3 n) k3 v1 v2 M
theorem ls_X4_tollOfStrip_36_1 {x : Int} {M' : am_M} {k3 : am_M → am_Rs} (hk3 : ∀ M, k3 M = some (x, M') → am_R none 56 bk_X4_tollOfStrip 3 (am_wr [0, 0, 0] []) [] SH M (am_rv (am_rk 56) x) SH M') : ∀ (n : Nat) (v1 v2 : Int) (M : am_M), XL_X4_tollOfStrip_36_1 k3 n v1 v2 M = some (x, M') → am_R none 56 bk_X4_tollOfStrip 1 (am_wr [39, 1, 1] [v1, v2]) [] SH M (am_rv (am_rk 56) x) SH M'
  | 0, v1, v2, M, h => by cases h
  | n + 1, v1, v2, M, h => rs_X4_tollOfStrip_36_1 (ls_X4_tollOfStrip_36_1 hk3 n) hk3 v1 v2 M h
noncomputable def X_X4_tollOfStrip_36 (v1 : Int) (M : am_M) : am_Rs := XB_X4_tollOfStrip_36_e (XL_X4_tollOfStrip_36_1 (XB_X4_tollOfStrip_36_3) 1000) v1 M
theorem dc_X4_tollOfStrip_36 (v1 : Int) (M M' : am_M) (x : Int) (h : X_X4_tollOfStrip_36 v1 M = some (x, M')) : am_Calls 56 [.inr (.inr (some 36)), .inl v1] SH M (am_rv (am_rk 56) x) SH M' :=
  am_enter pn_X4_tollOfStrip ml_X4_tollOfStrip rfl (Nat.le_of_ble_eq_true rfl) ⟨Nat.le_refl _, Nat.le_refl _⟩ (rs_X4_tollOfStrip_36_e (ls_X4_tollOfStrip_36_1 (rs_X4_tollOfStrip_36_3) 1000) v1 M h)
noncomputable def F_X4_tollAt_36 : Nat → List am_V → am_M → am_Rs := fun k as M => if k = 12 then (match as with
  | [.inl a0] => X_X1_isTaxDay a0 M
  | _ => none) else none
theorem fs_X4_tollAt_36 : am_FS SH F_X4_tollAt_36 := by
  intro k as M x M' h
  unfold F_X4_tollAt_36 at h
  split at h
  · rename_i hk; subst hk
    split at h
    · exact dc_X1_isTaxDay _ _ _ _ h
    · cases h
  cases h
noncomputable def X_X4_tollAt_36 (v1 v2 : Int) (M : am_M) : am_Rs :=
  if wI v1 < 0 then
   some (0, M)
  else if wI v1 < 13 then
   (X_X1_isTaxDay v2 M).bind fun z1 =>
   if wI z1.1 = 0 then
    some (0, z1.2)
   else if 0 ≤ wI v1 ∧ wI v1 < 13 then
   some (z1.2 37 (wI v1).toNat, z1.2)
   else none
  else some (0, M)
set_option maxRecDepth 100000 in
theorem dc_X4_tollAt_36 (v1 v2 : Int) (M M' : am_M) (x : Int) (h : X_X4_tollAt_36 v1 v2 M = some (x, M')) : am_Calls 58 [.inr (.inr (some 36)), .inl v1, .inl v2] SH M (am_rv (am_rk 58) x) SH M' :=
  vCall (F := F_X4_tollAt_36) (C := fun _ _ _ _ => none) (fu := 7) ok_X4_tollAt pn_X4_tollAt ml_X4_tollAt rfl (Nat.le_of_ble_eq_true rfl) fs_X4_tollAt_36 (fun _ _ _ _ h => by cases h) h
noncomputable def F_X4_tollsOf_36_1 : Nat → List am_V → am_M → am_Rs := fun k as M => if k = 58 then (match as with
  | [.inr (.inr (some 36)), .inl a1, .inl a2] => X_X4_tollAt_36 a1 a2 M
  | _ => none) else if k = 83 then (match as with
  | [.inr (.inr (some 1)), .inl a1] => X_X6_sizeOf_1 a1 M
  | _ => none) else if k = 88 then (match as with
  | [.inr (.inr (some 1)), .inl a1, .inl a2] => X_X6_get_1 a1 a2 M
  | _ => none) else none
theorem fs_X4_tollsOf_36_1 : am_FS SH F_X4_tollsOf_36_1 := by
  intro k as M x M' h
  unfold F_X4_tollsOf_36_1 at h
  split at h
  · rename_i hk; subst hk
    split at h
    · exact dc_X4_tollAt_36 _ _ _ _ _ h
    · cases h
  split at h
  · rename_i hk; subst hk
    split at h
    · exact dc_X6_sizeOf_1 _ _ _ _ h
    · cases h
  split at h
  · rename_i hk; subst hk
    split at h
    · exact dc_X6_get_1 _ _ _ _ _ h
    · cases h
  cases h
noncomputable def XB_X4_tollsOf_36_1_1 (c1 : Int → Int → Int → Int → am_M → am_Rs) (c3 : Int → am_M → am_Rs) (v2 v3 v4 v5 : Int) (M : am_M) : am_Rs :=
  (X_X6_sizeOf_1 v2 M).bind fun z1 =>
  if wI v5 < wI z1.1 then
   (X_X6_get_1 v2 v5 z1.2).bind fun z2 =>
   (X_X4_tollAt_36 (v4 + z2.1) ((z2.2 14 0) + v5) z2.2).bind fun z3 =>
   c1 v2 (v3 + z3.1) (v4 + z2.1) (v5 + 1) z3.2
  else c3 v3 z1.2
set_option maxRecDepth 100000 in
theorem rs_X4_tollsOf_36_1_1 {x : Int} {M' : am_M} {c1 : Int → Int → Int → Int → am_M → am_Rs} {c3 : Int → am_M → am_Rs} (h1 : ∀ w2 w3 w4 w5 M, c1 w2 w3 w4 w5 M = some (x, M') → am_R none 54 bk_X4_tollsOf 1 (am_wr [39, 4, 1, 1, 1, 1] [w2, w3, w4, w5]) [] SH M (am_rv (am_rk 54) x) SH M') (h3 : ∀ w3 M, c3 w3 M = some (x, M') → am_R none 54 bk_X4_tollsOf 3 (am_wr [0, 0, 0, 1, 0, 0] [w3]) [] SH M (am_rv (am_rk 54) x) SH M') (v2 v3 v4 v5 : Int) (M : am_M) (h : XB_X4_tollsOf_36_1_1 c1 c3 v2 v3 v4 v5 M = some (x, M')) : am_R none 54 bk_X4_tollsOf 1 (am_wr [39, 4, 1, 1, 1, 1] [v2, v3, v4, v5]) [] SH M (am_rv (am_rk 54) x) SH M' :=
  vRegion (sc := none) (sh := SH) (F := F_X4_tollsOf_36_1) (k := 54) (bs := bk_X4_tollsOf) (r := (x, M')) (C := fun t lv st M => if t = 1 then vCt [39, 4, 1, 1, 1, 1] (un4 c1) lv st M else if t = 3 then vCt [0, 0, 0, 1, 0, 0] (un1 c3) lv st M else none) ok_X4_tollsOf fs_X4_tollsOf_36_1 (fun t lv st M h => by
    split at h
    · rename_i e; subst e; exact vCt_s (un4_s h1) h
    split at h
    · rename_i e; subst e; exact vCt_s (un1_s h3) h
    cases h) 6 1 (am_wr [39, 4, 1, 1, 1, 1] [v2, v3, v4, v5]) [] M h
noncomputable def XB_X4_tollsOf_36_1_3 (v3 : Int) (M : am_M) : am_Rs :=
  some (v3, M)
set_option maxRecDepth 100000 in
theorem rs_X4_tollsOf_36_1_3 {x : Int} {M' : am_M} (v3 : Int) (M : am_M) (h : XB_X4_tollsOf_36_1_3 v3 M = some (x, M')) : am_R none 54 bk_X4_tollsOf 3 (am_wr [0, 0, 0, 1, 0, 0] [v3]) [] SH M (am_rv (am_rk 54) x) SH M' :=
  vRegion (sc := none) (sh := SH) (F := F_X4_tollsOf_36_1) (k := 54) (bs := bk_X4_tollsOf) (r := (x, M')) (C := fun t lv st M => none) ok_X4_tollsOf fs_X4_tollsOf_36_1 (fun t lv st M h => by
    cases h) 6 3 (am_wr [0, 0, 0, 1, 0, 0] [v3]) [] M h
noncomputable def XB_X4_tollsOf_36_1_e (c1 : Int → Int → Int → Int → am_M → am_Rs) (v2 : Int) (M : am_M) : am_Rs :=
  c1 v2 0 (M 14 1) 0 M
set_option maxRecDepth 100000 in
theorem rs_X4_tollsOf_36_1_e {x : Int} {M' : am_M} {c1 : Int → Int → Int → Int → am_M → am_Rs} (h1 : ∀ w2 w3 w4 w5 M, c1 w2 w3 w4 w5 M = some (x, M') → am_R none 54 bk_X4_tollsOf 1 (am_wr [39, 4, 1, 1, 1, 1] [w2, w3, w4, w5]) [] SH M (am_rv (am_rk 54) x) SH M') (v2 : Int) (M : am_M) (h : XB_X4_tollsOf_36_1_e c1 v2 M = some (x, M')) : am_R none 54 bk_X4_tollsOf 0 (am_ent 6 [.inr (.inr (some 36)), .inr (.inr (some 1)), .inl v2]) [] SH M (am_rv (am_rk 54) x) SH M' :=
  vRegion (sc := none) (sh := SH) (F := F_X4_tollsOf_36_1) (k := 54) (bs := bk_X4_tollsOf) (r := (x, M')) (C := fun t lv st M => if t = 1 then vCt [39, 4, 1, 1, 1, 1] (un4 c1) lv st M else none) ok_X4_tollsOf fs_X4_tollsOf_36_1 (fun t lv st M h => by
    split at h
    · rename_i e; subst e; exact vCt_s (un4_s h1) h
    cases h) 6 0 (am_ent 6 [.inr (.inr (some 36)), .inr (.inr (some 1)), .inl v2]) [] M h
noncomputable def XL_X4_tollsOf_36_1_1 (k3 : Int → am_M → am_Rs) : Nat → Int → Int → Int → Int → am_M → am_Rs
  | 0, _, _, _, _, _ => none
  | n + 1, v2, v3, v4, v5, M => XB_X4_tollsOf_36_1_1 (XL_X4_tollsOf_36_1_1 k3 n) k3 v2 v3 v4 v5 M
theorem ls_X4_tollsOf_36_1_1 {x : Int} {M' : am_M} {k3 : Int → am_M → am_Rs} (hk3 : ∀ w3 M, k3 w3 M = some (x, M') → am_R none 54 bk_X4_tollsOf 3 (am_wr [0, 0, 0, 1, 0, 0] [w3]) [] SH M (am_rv (am_rk 54) x) SH M') : ∀ (n : Nat) (v2 v3 v4 v5 : Int) (M : am_M), XL_X4_tollsOf_36_1_1 k3 n v2 v3 v4 v5 M = some (x, M') → am_R none 54 bk_X4_tollsOf 1 (am_wr [39, 4, 1, 1, 1, 1] [v2, v3, v4, v5]) [] SH M (am_rv (am_rk 54) x) SH M'
  | 0, v2, v3, v4, v5, M, h => by cases h
  | n + 1, v2, v3, v4, v5, M, h => rs_X4_tollsOf_36_1_1 (ls_X4_tollsOf_36_1_1 hk3 n) hk3 v2 v3 v4 v5 M h
noncomputable def X_X4_tollsOf_36_1 (v2 : Int) (M : am_M) : am_Rs := XB_X4_tollsOf_36_1_e (XL_X4_tollsOf_36_1_1 (XB_X4_tollsOf_36_1_3) 1000) v2 M
theorem dc_X4_tollsOf_36_1 (v2 : Int) (M M' : am_M) (x : Int) (h : X_X4_tollsOf_36_1 v2 M = some (x, M')) : am_Calls 54 [.inr (.inr (some 36)), .inr (.inr (some 1)), .inl v2] SH M (am_rv (am_rk 54) x) SH M' :=
  am_enter pn_X4_tollsOf ml_X4_tollsOf rfl (Nat.le_of_ble_eq_true rfl) ⟨Nat.le_refl _, Nat.le_refl _⟩ (rs_X4_tollsOf_36_1_e (ls_X4_tollsOf_36_1_1 (rs_X4_tollsOf_36_1_3) 1000) v2 M h)
noncomputable def F_X8_pays_0 : Nat → List am_V → am_M → am_Rs := fun k as M => if k = 33 then (match as with
  | [.inr (.inr (some 11)), .inl a1] => X_X2_has_11 a1 M
  | _ => none) else if k = 54 then (match as with
  | [.inr (.inr (some 36)), .inr (.inr (some 1)), .inl a2] => X_X4_tollsOf_36_1 a2 M
  | _ => none) else if k = 56 then (match as with
  | [.inr (.inr (some 36)), .inl a1] => X_X4_tollOfStrip_36 a1 M
  | _ => none) else if k = 81 then (match as with
  | [.inr (.inr (some 1)), .inl a1] => X_X6_isNumber_1 a1 M
  | _ => none) else if k = 82 then (match as with
  | [.inr (.inr (some 1)), .inl a1] => X_X6_isThere_1 a1 M
  | _ => none) else if k = 154 then (match as with
  | [.inr (.inr (some 0)), .inl a1] => X_X8_find_0 a1 M
  | _ => none) else if k = 163 then (match as with
  | [.inr (.inr (some 0)), .inl a1] => X_X8_canGo_0 a1 M
  | _ => none) else none
theorem fs_X8_pays_0 : am_FS SH F_X8_pays_0 := by
  intro k as M x M' h
  unfold F_X8_pays_0 at h
  split at h
  · rename_i hk; subst hk
    split at h
    · exact dc_X2_has_11 _ _ _ _ h
    · cases h
  split at h
  · rename_i hk; subst hk
    split at h
    · exact dc_X4_tollsOf_36_1 _ _ _ _ h
    · cases h
  split at h
  · rename_i hk; subst hk
    split at h
    · exact dc_X4_tollOfStrip_36 _ _ _ _ h
    · cases h
  split at h
  · rename_i hk; subst hk
    split at h
    · exact dc_X6_isNumber_1 _ _ _ _ h
    · cases h
  split at h
  · rename_i hk; subst hk
    split at h
    · exact dc_X6_isThere_1 _ _ _ _ h
    · cases h
  split at h
  · rename_i hk; subst hk
    split at h
    · exact dc_X8_find_0 _ _ _ _ h
    · cases h
  split at h
  · rename_i hk; subst hk
    split at h
    · exact dc_X8_canGo_0 _ _ _ _ h
    · cases h
  cases h
noncomputable def X_X8_pays_0 (v1 v2 : Int) (M : am_M) : am_Rs :=
  (X_X2_has_11 v1 M).bind fun z1 =>
  if wI z1.1 = 0 then
   some ((-1), z1.2)
  else (X_X6_isNumber_1 v2 z1.2).bind fun z2 =>
  if wI z2.1 = 0 then
   some ((-1), z2.2)
  else (X_X6_isThere_1 v2 z2.2).bind fun z3 =>
  if wI z3.1 = 0 then
   (X_X8_find_0 1 z3.2).bind fun z4 =>
   some (z4.1, z4.2)
  else (X_X8_canGo_0 v2 z3.2).bind fun z4 =>
  if wI z4.1 = 0 then
   (X_X8_find_0 3 z4.2).bind fun z5 =>
   some (z5.1, z5.2)
  else (X_X4_tollOfStrip_36 v1 z4.2).bind fun z5 =>
  (X_X4_tollsOf_36_1 v2 z5.2).bind fun z6 =>
  some (z6.1, z6.2)
set_option maxRecDepth 100000 in
theorem dc_X8_pays_0 (v1 v2 : Int) (M M' : am_M) (x : Int) (h : X_X8_pays_0 v1 v2 M = some (x, M')) : am_Calls 129 [.inr (.inr (some 0)), .inl v1, .inl v2] SH M (am_rv (am_rk 129) x) SH M' :=
  vCall (F := F_X8_pays_0) (C := fun _ _ _ _ => none) (fu := 10) ok_X8_pays pn_X8_pays ml_X8_pays rfl (Nat.le_of_ble_eq_true rfl) fs_X8_pays_0 (fun _ _ _ _ h => by cases h) h
noncomputable def X_X2_isPlace_11 (v1 : Int) (M : am_M) : am_Rs :=
  if wI v1 < 0 then
   some (0, M)
  else if wI (M 11 0) < wI v1 then
   some (0, M)
  else some (1, M)
set_option maxRecDepth 100000 in
theorem dc_X2_isPlace_11 (v1 : Int) (M M' : am_M) (x : Int) (h : X_X2_isPlace_11 v1 M = some (x, M')) : am_Calls 34 [.inr (.inr (some 11)), .inl v1] SH M (am_rv (am_rk 34) x) SH M' :=
  vCall (F := F_none) (C := fun _ _ _ _ => none) (fu := 7) ok_X2_isPlace pn_X2_isPlace ml_X2_isPlace rfl (Nat.le_of_ble_eq_true rfl) fs_none (fun _ _ _ _ h => by cases h) h
noncomputable def F_X4_placesBehind_36 : Nat → List am_V → am_M → am_Rs := fun k as M => if k = 41 then (match as with
  | [.inr (.inr (some 11)), .inl a1, .inl a2, .inl a3] => X_X2_rudeness_11 a1 a2 a3 M
  | _ => none) else none
theorem fs_X4_placesBehind_36 : am_FS SH F_X4_placesBehind_36 := by
  intro k as M x M' h
  unfold F_X4_placesBehind_36 at h
  split at h
  · rename_i hk; subst hk
    split at h
    · exact dc_X2_rudeness_11 _ _ _ _ _ _ h
    · cases h
  cases h
noncomputable def XB_X4_placesBehind_36_1 (c1 : Int → Int → Int → Int → am_M → am_Rs) (c5 : Int → am_M → am_Rs) (v1 v2 v3 v4 : Int) (M : am_M) : am_Rs :=
  if 1 < wI v4 then
   c5 v3 M
  else (X_X2_rudeness_11 v1 v4 v2 M).bind fun z1 =>
  if wI z1.1 < 0 then
   c1 v1 v2 v3 (v4 + 1) z1.2
  else c1 v1 v2 (b_or_ v3 (b_shl_ 1 (v1 + v4))) (v4 + 1) z1.2
set_option maxRecDepth 100000 in
theorem rs_X4_placesBehind_36_1 {x : Int} {M' : am_M} {c1 : Int → Int → Int → Int → am_M → am_Rs} {c5 : Int → am_M → am_Rs} (h1 : ∀ w1 w2 w3 w4 M, c1 w1 w2 w3 w4 M = some (x, M') → am_R none 68 bk_X4_placesBehind 1 (am_wr [39, 1, 1, 1, 1] [w1, w2, w3, w4]) [] SH M (am_rv (am_rk 68) x) SH M') (h5 : ∀ w3 M, c5 w3 M = some (x, M') → am_R none 68 bk_X4_placesBehind 5 (am_wr [0, 0, 0, 1, 0] [w3]) [] SH M (am_rv (am_rk 68) x) SH M') (v1 v2 v3 v4 : Int) (M : am_M) (h : XB_X4_placesBehind_36_1 c1 c5 v1 v2 v3 v4 M = some (x, M')) : am_R none 68 bk_X4_placesBehind 1 (am_wr [39, 1, 1, 1, 1] [v1, v2, v3, v4]) [] SH M (am_rv (am_rk 68) x) SH M' :=
  vRegion (sc := none) (sh := SH) (F := F_X4_placesBehind_36) (k := 68) (bs := bk_X4_placesBehind) (r := (x, M')) (C := fun t lv st M => if t = 1 then vCt [39, 1, 1, 1, 1] (un4 c1) lv st M else if t = 5 then vCt [0, 0, 0, 1, 0] (un1 c5) lv st M else none) ok_X4_placesBehind fs_X4_placesBehind_36 (fun t lv st M h => by
    split at h
    · rename_i e; subst e; exact vCt_s (un4_s h1) h
    split at h
    · rename_i e; subst e; exact vCt_s (un1_s h5) h
    cases h) 8 1 (am_wr [39, 1, 1, 1, 1] [v1, v2, v3, v4]) [] M h
noncomputable def XB_X4_placesBehind_36_5 (v3 : Int) (M : am_M) : am_Rs :=
  some (v3, M)
set_option maxRecDepth 100000 in
theorem rs_X4_placesBehind_36_5 {x : Int} {M' : am_M} (v3 : Int) (M : am_M) (h : XB_X4_placesBehind_36_5 v3 M = some (x, M')) : am_R none 68 bk_X4_placesBehind 5 (am_wr [0, 0, 0, 1, 0] [v3]) [] SH M (am_rv (am_rk 68) x) SH M' :=
  vRegion (sc := none) (sh := SH) (F := F_X4_placesBehind_36) (k := 68) (bs := bk_X4_placesBehind) (r := (x, M')) (C := fun t lv st M => none) ok_X4_placesBehind fs_X4_placesBehind_36 (fun t lv st M h => by
    cases h) 8 5 (am_wr [0, 0, 0, 1, 0] [v3]) [] M h
noncomputable def XB_X4_placesBehind_36_e (c1 : Int → Int → Int → Int → am_M → am_Rs) (v1 v2 : Int) (M : am_M) : am_Rs :=
  c1 v1 v2 0 (-1) M
set_option maxRecDepth 100000 in
theorem rs_X4_placesBehind_36_e {x : Int} {M' : am_M} {c1 : Int → Int → Int → Int → am_M → am_Rs} (h1 : ∀ w1 w2 w3 w4 M, c1 w1 w2 w3 w4 M = some (x, M') → am_R none 68 bk_X4_placesBehind 1 (am_wr [39, 1, 1, 1, 1] [w1, w2, w3, w4]) [] SH M (am_rv (am_rk 68) x) SH M') (v1 v2 : Int) (M : am_M) (h : XB_X4_placesBehind_36_e c1 v1 v2 M = some (x, M')) : am_R none 68 bk_X4_placesBehind 0 (am_ent 5 [.inr (.inr (some 36)), .inl v1, .inl v2]) [] SH M (am_rv (am_rk 68) x) SH M' :=
  vRegion (sc := none) (sh := SH) (F := F_X4_placesBehind_36) (k := 68) (bs := bk_X4_placesBehind) (r := (x, M')) (C := fun t lv st M => if t = 1 then vCt [39, 1, 1, 1, 1] (un4 c1) lv st M else none) ok_X4_placesBehind fs_X4_placesBehind_36 (fun t lv st M h => by
    split at h
    · rename_i e; subst e; exact vCt_s (un4_s h1) h
    cases h) 8 0 (am_ent 5 [.inr (.inr (some 36)), .inl v1, .inl v2]) [] M h
noncomputable def XL_X4_placesBehind_36_1 (k5 : Int → am_M → am_Rs) : Nat → Int → Int → Int → Int → am_M → am_Rs
  | 0, _, _, _, _, _ => none
  | n + 1, v1, v2, v3, v4, M => XB_X4_placesBehind_36_1 (XL_X4_placesBehind_36_1 k5 n) k5 v1 v2 v3 v4 M
theorem ls_X4_placesBehind_36_1 {x : Int} {M' : am_M} {k5 : Int → am_M → am_Rs} (hk5 : ∀ w3 M, k5 w3 M = some (x, M') → am_R none 68 bk_X4_placesBehind 5 (am_wr [0, 0, 0, 1, 0] [w3]) [] SH M (am_rv (am_rk 68) x) SH M') : ∀ (n : Nat) (v1 v2 v3 v4 : Int) (M : am_M), XL_X4_placesBehind_36_1 k5 n v1 v2 v3 v4 M = some (x, M') → am_R none 68 bk_X4_placesBehind 1 (am_wr [39, 1, 1, 1, 1] [v1, v2, v3, v4]) [] SH M (am_rv (am_rk 68) x) SH M'
  | 0, v1, v2, v3, v4, M, h => by cases h
  | n + 1, v1, v2, v3, v4, M, h => rs_X4_placesBehind_36_1 (ls_X4_placesBehind_36_1 hk5 n) hk5 v1 v2 v3 v4 M h
noncomputable def X_X4_placesBehind_36 (v1 v2 : Int) (M : am_M) : am_Rs := XB_X4_placesBehind_36_e (XL_X4_placesBehind_36_1 (XB_X4_placesBehind_36_5) 1000) v1 v2 M
theorem dc_X4_placesBehind_36 (v1 v2 : Int) (M M' : am_M) (x : Int) (h : X_X4_placesBehind_36 v1 v2 M = some (x, M')) : am_Calls 68 [.inr (.inr (some 36)), .inl v1, .inl v2] SH M (am_rv (am_rk 68) x) SH M' :=
  am_enter pn_X4_placesBehind ml_X4_placesBehind rfl (Nat.le_of_ble_eq_true rfl) ⟨Nat.le_refl _, Nat.le_refl _⟩ (rs_X4_placesBehind_36_e (ls_X4_placesBehind_36_1 (rs_X4_placesBehind_36_5) 1000) v1 v2 M h)
noncomputable def F_X4_spread_36 : Nat → List am_V → am_M → am_Rs := fun k as M => if k = 68 then (match as with
  | [.inr (.inr (some 36)), .inl a1, .inl a2] => X_X4_placesBehind_36 a1 a2 M
  | _ => none) else none
theorem fs_X4_spread_36 : am_FS SH F_X4_spread_36 := by
  intro k as M x M' h
  unfold F_X4_spread_36 at h
  split at h
  · rename_i hk; subst hk
    split at h
    · exact dc_X4_placesBehind_36 _ _ _ _ _ h
    · cases h
  cases h
noncomputable def XB_X4_spread_36_1 (c1 : Int → Int → Int → Int → am_M → am_Rs) (c5 : Int → am_M → am_Rs) (v1 v2 v3 v4 : Int) (M : am_M) : am_Rs :=
  if wI (M 11 0) < wI v4 then
   c5 v3 M
  else if wI (b_and_ (b_shr_ v1 v4) 1) = 0 then
   c1 v1 v2 v3 (v4 + 1) M
  else (X_X4_placesBehind_36 v4 v2 M).bind fun z1 =>
  c1 v1 v2 (b_or_ v3 z1.1) (v4 + 1) z1.2
set_option maxRecDepth 100000 in
theorem rs_X4_spread_36_1 {x : Int} {M' : am_M} {c1 : Int → Int → Int → Int → am_M → am_Rs} {c5 : Int → am_M → am_Rs} (h1 : ∀ w1 w2 w3 w4 M, c1 w1 w2 w3 w4 M = some (x, M') → am_R none 67 bk_X4_spread 1 (am_wr [39, 1, 1, 1, 1] [w1, w2, w3, w4]) [] SH M (am_rv (am_rk 67) x) SH M') (h5 : ∀ w3 M, c5 w3 M = some (x, M') → am_R none 67 bk_X4_spread 5 (am_wr [0, 0, 0, 1, 0] [w3]) [] SH M (am_rv (am_rk 67) x) SH M') (v1 v2 v3 v4 : Int) (M : am_M) (h : XB_X4_spread_36_1 c1 c5 v1 v2 v3 v4 M = some (x, M')) : am_R none 67 bk_X4_spread 1 (am_wr [39, 1, 1, 1, 1] [v1, v2, v3, v4]) [] SH M (am_rv (am_rk 67) x) SH M' :=
  vRegion (sc := none) (sh := SH) (F := F_X4_spread_36) (k := 67) (bs := bk_X4_spread) (r := (x, M')) (C := fun t lv st M => if t = 1 then vCt [39, 1, 1, 1, 1] (un4 c1) lv st M else if t = 5 then vCt [0, 0, 0, 1, 0] (un1 c5) lv st M else none) ok_X4_spread fs_X4_spread_36 (fun t lv st M h => by
    split at h
    · rename_i e; subst e; exact vCt_s (un4_s h1) h
    split at h
    · rename_i e; subst e; exact vCt_s (un1_s h5) h
    cases h) 8 1 (am_wr [39, 1, 1, 1, 1] [v1, v2, v3, v4]) [] M h
noncomputable def XB_X4_spread_36_5 (v3 : Int) (M : am_M) : am_Rs :=
  some (v3, M)
set_option maxRecDepth 100000 in
theorem rs_X4_spread_36_5 {x : Int} {M' : am_M} (v3 : Int) (M : am_M) (h : XB_X4_spread_36_5 v3 M = some (x, M')) : am_R none 67 bk_X4_spread 5 (am_wr [0, 0, 0, 1, 0] [v3]) [] SH M (am_rv (am_rk 67) x) SH M' :=
  vRegion (sc := none) (sh := SH) (F := F_X4_spread_36) (k := 67) (bs := bk_X4_spread) (r := (x, M')) (C := fun t lv st M => none) ok_X4_spread fs_X4_spread_36 (fun t lv st M h => by
    cases h) 8 5 (am_wr [0, 0, 0, 1, 0] [v3]) [] M h
noncomputable def XB_X4_spread_36_e (c1 : Int → Int → Int → Int → am_M → am_Rs) (v1 v2 : Int) (M : am_M) : am_Rs :=
  c1 v1 v2 0 0 M
set_option maxRecDepth 100000 in
theorem rs_X4_spread_36_e {x : Int} {M' : am_M} {c1 : Int → Int → Int → Int → am_M → am_Rs} (h1 : ∀ w1 w2 w3 w4 M, c1 w1 w2 w3 w4 M = some (x, M') → am_R none 67 bk_X4_spread 1 (am_wr [39, 1, 1, 1, 1] [w1, w2, w3, w4]) [] SH M (am_rv (am_rk 67) x) SH M') (v1 v2 : Int) (M : am_M) (h : XB_X4_spread_36_e c1 v1 v2 M = some (x, M')) : am_R none 67 bk_X4_spread 0 (am_ent 5 [.inr (.inr (some 36)), .inl v1, .inl v2]) [] SH M (am_rv (am_rk 67) x) SH M' :=
  vRegion (sc := none) (sh := SH) (F := F_X4_spread_36) (k := 67) (bs := bk_X4_spread) (r := (x, M')) (C := fun t lv st M => if t = 1 then vCt [39, 1, 1, 1, 1] (un4 c1) lv st M else none) ok_X4_spread fs_X4_spread_36 (fun t lv st M h => by
    split at h
    · rename_i e; subst e; exact vCt_s (un4_s h1) h
    cases h) 8 0 (am_ent 5 [.inr (.inr (some 36)), .inl v1, .inl v2]) [] M h
noncomputable def XL_X4_spread_36_1 (k5 : Int → am_M → am_Rs) : Nat → Int → Int → Int → Int → am_M → am_Rs
  | 0, _, _, _, _, _ => none
  | n + 1, v1, v2, v3, v4, M => XB_X4_spread_36_1 (XL_X4_spread_36_1 k5 n) k5 v1 v2 v3 v4 M
theorem ls_X4_spread_36_1 {x : Int} {M' : am_M} {k5 : Int → am_M → am_Rs} (hk5 : ∀ w3 M, k5 w3 M = some (x, M') → am_R none 67 bk_X4_spread 5 (am_wr [0, 0, 0, 1, 0] [w3]) [] SH M (am_rv (am_rk 67) x) SH M') : ∀ (n : Nat) (v1 v2 v3 v4 : Int) (M : am_M), XL_X4_spread_36_1 k5 n v1 v2 v3 v4 M = some (x, M') → am_R none 67 bk_X4_spread 1 (am_wr [39, 1, 1, 1, 1] [v1, v2, v3, v4]) [] SH M (am_rv (am_rk 67) x) SH M'
  | 0, v1, v2, v3, v4, M, h => by cases h
  | n + 1, v1, v2, v3, v4, M, h => rs_X4_spread_36_1 (ls_X4_spread_36_1 hk5 n) hk5 v1 v2 v3 v4 M h
noncomputable def X_X4_spread_36 (v1 v2 : Int) (M : am_M) : am_Rs := XB_X4_spread_36_e (XL_X4_spread_36_1 (XB_X4_spread_36_5) 1000) v1 v2 M
theorem dc_X4_spread_36 (v1 v2 : Int) (M M' : am_M) (x : Int) (h : X_X4_spread_36 v1 v2 M = some (x, M')) : am_Calls 67 [.inr (.inr (some 36)), .inl v1, .inl v2] SH M (am_rv (am_rk 67) x) SH M' :=
  am_enter pn_X4_spread ml_X4_spread rfl (Nat.le_of_ble_eq_true rfl) ⟨Nat.le_refl _, Nat.le_refl _⟩ (rs_X4_spread_36_e (ls_X4_spread_36_1 (rs_X4_spread_36_5) 1000) v1 v2 M h)
noncomputable def F_X4_fewestDaysTo_36 : Nat → List am_V → am_M → am_Rs := fun k as M => if k = 67 then (match as with
  | [.inr (.inr (some 36)), .inl a1, .inl a2] => X_X4_spread_36 a1 a2 M
  | _ => none) else none
theorem fs_X4_fewestDaysTo_36 : am_FS SH F_X4_fewestDaysTo_36 := by
  intro k as M x M' h
  unfold F_X4_fewestDaysTo_36 at h
  split at h
  · rename_i hk; subst hk
    split at h
    · exact dc_X4_spread_36 _ _ _ _ _ h
    · cases h
  cases h
noncomputable def XB_X4_fewestDaysTo_36_1 (c1 : Int → Int → Int → am_M → am_Rs) (c5 : am_M → am_Rs) (v1 v2 v3 : Int) (M : am_M) : am_Rs :=
  if 20 < wI v3 then
   c5 M
  else if wI (b_and_ (b_shr_ v2 v1) 1) = 0 then
   (X_X4_spread_36 v2 ((M 14 0) + v3) M).bind fun z1 =>
   c1 v1 z1.1 (v3 + 1) z1.2
  else some (v3, M)
set_option maxRecDepth 100000 in
theorem rs_X4_fewestDaysTo_36_1 {x : Int} {M' : am_M} {c1 : Int → Int → Int → am_M → am_Rs} {c5 : am_M → am_Rs} (h1 : ∀ w1 w2 w3 M, c1 w1 w2 w3 M = some (x, M') → am_R none 65 bk_X4_fewestDaysTo 1 (am_wr [39, 1, 1, 1] [w1, w2, w3]) [] SH M (am_rv (am_rk 65) x) SH M') (h5 : ∀ M, c5 M = some (x, M') → am_R none 65 bk_X4_fewestDaysTo 5 (am_wr [0, 0, 0, 0] []) [] SH M (am_rv (am_rk 65) x) SH M') (v1 v2 v3 : Int) (M : am_M) (h : XB_X4_fewestDaysTo_36_1 c1 c5 v1 v2 v3 M = some (x, M')) : am_R none 65 bk_X4_fewestDaysTo 1 (am_wr [39, 1, 1, 1] [v1, v2, v3]) [] SH M (am_rv (am_rk 65) x) SH M' :=
  vRegion (sc := none) (sh := SH) (F := F_X4_fewestDaysTo_36) (k := 65) (bs := bk_X4_fewestDaysTo) (r := (x, M')) (C := fun t lv st M => if t = 1 then vCt [39, 1, 1, 1] (un3 c1) lv st M else if t = 5 then vCt [0, 0, 0, 0] (un0 c5) lv st M else none) ok_X4_fewestDaysTo fs_X4_fewestDaysTo_36 (fun t lv st M h => by
    split at h
    · rename_i e; subst e; exact vCt_s (un3_s h1) h
    split at h
    · rename_i e; subst e; exact vCt_s (un0_s h5) h
    cases h) 8 1 (am_wr [39, 1, 1, 1] [v1, v2, v3]) [] M h
noncomputable def XB_X4_fewestDaysTo_36_5 (M : am_M) : am_Rs :=
  some ((-1), M)
set_option maxRecDepth 100000 in
theorem rs_X4_fewestDaysTo_36_5 {x : Int} {M' : am_M} (M : am_M) (h : XB_X4_fewestDaysTo_36_5 M = some (x, M')) : am_R none 65 bk_X4_fewestDaysTo 5 (am_wr [0, 0, 0, 0] []) [] SH M (am_rv (am_rk 65) x) SH M' :=
  vRegion (sc := none) (sh := SH) (F := F_X4_fewestDaysTo_36) (k := 65) (bs := bk_X4_fewestDaysTo) (r := (x, M')) (C := fun t lv st M => none) ok_X4_fewestDaysTo fs_X4_fewestDaysTo_36 (fun t lv st M h => by
    cases h) 8 5 (am_wr [0, 0, 0, 0] []) [] M h
noncomputable def XB_X4_fewestDaysTo_36_e (c1 : Int → Int → Int → am_M → am_Rs) (v1 : Int) (M : am_M) : am_Rs :=
  c1 v1 (b_shl_ 1 (M 14 1)) 0 M
set_option maxRecDepth 100000 in
theorem rs_X4_fewestDaysTo_36_e {x : Int} {M' : am_M} {c1 : Int → Int → Int → am_M → am_Rs} (h1 : ∀ w1 w2 w3 M, c1 w1 w2 w3 M = some (x, M') → am_R none 65 bk_X4_fewestDaysTo 1 (am_wr [39, 1, 1, 1] [w1, w2, w3]) [] SH M (am_rv (am_rk 65) x) SH M') (v1 : Int) (M : am_M) (h : XB_X4_fewestDaysTo_36_e c1 v1 M = some (x, M')) : am_R none 65 bk_X4_fewestDaysTo 0 (am_ent 4 [.inr (.inr (some 36)), .inl v1]) [] SH M (am_rv (am_rk 65) x) SH M' :=
  vRegion (sc := none) (sh := SH) (F := F_X4_fewestDaysTo_36) (k := 65) (bs := bk_X4_fewestDaysTo) (r := (x, M')) (C := fun t lv st M => if t = 1 then vCt [39, 1, 1, 1] (un3 c1) lv st M else none) ok_X4_fewestDaysTo fs_X4_fewestDaysTo_36 (fun t lv st M h => by
    split at h
    · rename_i e; subst e; exact vCt_s (un3_s h1) h
    cases h) 8 0 (am_ent 4 [.inr (.inr (some 36)), .inl v1]) [] M h
noncomputable def XL_X4_fewestDaysTo_36_1 (k5 : am_M → am_Rs) : Nat → Int → Int → Int → am_M → am_Rs
  | 0, _, _, _, _ => none
  | n + 1, v1, v2, v3, M => XB_X4_fewestDaysTo_36_1 (XL_X4_fewestDaysTo_36_1 k5 n) k5 v1 v2 v3 M
theorem ls_X4_fewestDaysTo_36_1 {x : Int} {M' : am_M} {k5 : am_M → am_Rs} (hk5 : ∀ M, k5 M = some (x, M') → am_R none 65 bk_X4_fewestDaysTo 5 (am_wr [0, 0, 0, 0] []) [] SH M (am_rv (am_rk 65) x) SH M') : ∀ (n : Nat) (v1 v2 v3 : Int) (M : am_M), XL_X4_fewestDaysTo_36_1 k5 n v1 v2 v3 M = some (x, M') → am_R none 65 bk_X4_fewestDaysTo 1 (am_wr [39, 1, 1, 1] [v1, v2, v3]) [] SH M (am_rv (am_rk 65) x) SH M'
  | 0, v1, v2, v3, M, h => by cases h
  | n + 1, v1, v2, v3, M, h => rs_X4_fewestDaysTo_36_1 (ls_X4_fewestDaysTo_36_1 hk5 n) hk5 v1 v2 v3 M h
noncomputable def X_X4_fewestDaysTo_36 (v1 : Int) (M : am_M) : am_Rs := XB_X4_fewestDaysTo_36_e (XL_X4_fewestDaysTo_36_1 (XB_X4_fewestDaysTo_36_5) 1000) v1 M
theorem dc_X4_fewestDaysTo_36 (v1 : Int) (M M' : am_M) (x : Int) (h : X_X4_fewestDaysTo_36 v1 M = some (x, M')) : am_Calls 65 [.inr (.inr (some 36)), .inl v1] SH M (am_rv (am_rk 65) x) SH M' :=
  am_enter pn_X4_fewestDaysTo ml_X4_fewestDaysTo rfl (Nat.le_of_ble_eq_true rfl) ⟨Nat.le_refl _, Nat.le_refl _⟩ (rs_X4_fewestDaysTo_36_e (ls_X4_fewestDaysTo_36_1 (rs_X4_fewestDaysTo_36_5) 1000) v1 M h)
noncomputable def XB_J7_fill_53178_37_1 (c1 : Int → Int → Int → am_M → am_Rs) (c3 : am_M → am_Rs) (v1 v2 v3 : Int) (M : am_M) : am_Rs :=
  if wI v2 < wI v3 then
   if 0 ≤ wI v2 ∧ wI v2 < 13 then
   c1 v1 (v2 + 1) v3 (am_up M 37 (wI v2).toNat v1)
   else none
  else c3 M
set_option maxRecDepth 100000 in
theorem rs_J7_fill_53178_37_1 {x : Int} {M' : am_M} {c1 : Int → Int → Int → am_M → am_Rs} {c3 : am_M → am_Rs} (h1 : ∀ w1 w2 w3 M, c1 w1 w2 w3 M = some (x, M') → am_R none 277 bk_J7_fill_53178 1 (am_wr [40, 1, 1, 1] [w1, w2, w3]) [] SH M (am_rv (am_rk 277) x) SH M') (h3 : ∀ M, c3 M = some (x, M') → am_R none 277 bk_J7_fill_53178 3 (am_wr [0, 0, 0, 0] []) [] SH M (am_rv (am_rk 277) x) SH M') (v1 v2 v3 : Int) (M : am_M) (h : XB_J7_fill_53178_37_1 c1 c3 v1 v2 v3 M = some (x, M')) : am_R none 277 bk_J7_fill_53178 1 (am_wr [40, 1, 1, 1] [v1, v2, v3]) [] SH M (am_rv (am_rk 277) x) SH M' :=
  vRegion (sc := none) (sh := SH) (F := F_none) (k := 277) (bs := bk_J7_fill_53178) (r := (x, M')) (C := fun t lv st M => if t = 1 then vCt [40, 1, 1, 1] (un3 c1) lv st M else if t = 3 then vCt [0, 0, 0, 0] (un0 c3) lv st M else none) ok_J7_fill_53178 fs_none (fun t lv st M h => by
    split at h
    · rename_i e; subst e; exact vCt_s (un3_s h1) h
    split at h
    · rename_i e; subst e; exact vCt_s (un0_s h3) h
    cases h) 6 1 (am_wr [40, 1, 1, 1] [v1, v2, v3]) [] M h
noncomputable def XB_J7_fill_53178_37_3 (M : am_M) : am_Rs :=
  some (0, M)
set_option maxRecDepth 100000 in
theorem rs_J7_fill_53178_37_3 {x : Int} {M' : am_M} (M : am_M) (h : XB_J7_fill_53178_37_3 M = some (x, M')) : am_R none 277 bk_J7_fill_53178 3 (am_wr [0, 0, 0, 0] []) [] SH M (am_rv (am_rk 277) x) SH M' :=
  vRegion (sc := none) (sh := SH) (F := F_none) (k := 277) (bs := bk_J7_fill_53178) (r := (x, M')) (C := fun t lv st M => none) ok_J7_fill_53178 fs_none (fun t lv st M h => by
    cases h) 6 3 (am_wr [0, 0, 0, 0] []) [] M h
noncomputable def XB_J7_fill_53178_37_e (c1 : Int → Int → Int → am_M → am_Rs) (v1 : Int) (M : am_M) : am_Rs :=
  c1 v1 0 13 M
set_option maxRecDepth 100000 in
theorem rs_J7_fill_53178_37_e {x : Int} {M' : am_M} {c1 : Int → Int → Int → am_M → am_Rs} (h1 : ∀ w1 w2 w3 M, c1 w1 w2 w3 M = some (x, M') → am_R none 277 bk_J7_fill_53178 1 (am_wr [40, 1, 1, 1] [w1, w2, w3]) [] SH M (am_rv (am_rk 277) x) SH M') (v1 : Int) (M : am_M) (h : XB_J7_fill_53178_37_e c1 v1 M = some (x, M')) : am_R none 277 bk_J7_fill_53178 0 (am_ent 4 [.inr (.inr (some 37)), .inl v1]) [] SH M (am_rv (am_rk 277) x) SH M' :=
  vRegion (sc := none) (sh := SH) (F := F_none) (k := 277) (bs := bk_J7_fill_53178) (r := (x, M')) (C := fun t lv st M => if t = 1 then vCt [40, 1, 1, 1] (un3 c1) lv st M else none) ok_J7_fill_53178 fs_none (fun t lv st M h => by
    split at h
    · rename_i e; subst e; exact vCt_s (un3_s h1) h
    cases h) 6 0 (am_ent 4 [.inr (.inr (some 37)), .inl v1]) [] M h
noncomputable def XL_J7_fill_53178_37_1 (k3 : am_M → am_Rs) : Nat → Int → Int → Int → am_M → am_Rs
  | 0, _, _, _, _ => none
  | n + 1, v1, v2, v3, M => XB_J7_fill_53178_37_1 (XL_J7_fill_53178_37_1 k3 n) k3 v1 v2 v3 M
theorem ls_J7_fill_53178_37_1 {x : Int} {M' : am_M} {k3 : am_M → am_Rs} (hk3 : ∀ M, k3 M = some (x, M') → am_R none 277 bk_J7_fill_53178 3 (am_wr [0, 0, 0, 0] []) [] SH M (am_rv (am_rk 277) x) SH M') : ∀ (n : Nat) (v1 v2 v3 : Int) (M : am_M), XL_J7_fill_53178_37_1 k3 n v1 v2 v3 M = some (x, M') → am_R none 277 bk_J7_fill_53178 1 (am_wr [40, 1, 1, 1] [v1, v2, v3]) [] SH M (am_rv (am_rk 277) x) SH M'
  | 0, v1, v2, v3, M, h => by cases h
  | n + 1, v1, v2, v3, M, h => rs_J7_fill_53178_37_1 (ls_J7_fill_53178_37_1 hk3 n) hk3 v1 v2 v3 M h
noncomputable def X_J7_fill_53178_37 (v1 : Int) (M : am_M) : am_Rs := XB_J7_fill_53178_37_e (XL_J7_fill_53178_37_1 (XB_J7_fill_53178_37_3) 1000) v1 M
theorem dc_J7_fill_53178_37 (v1 : Int) (M M' : am_M) (x : Int) (h : X_J7_fill_53178_37 v1 M = some (x, M')) : am_Calls 277 [.inr (.inr (some 37)), .inl v1] SH M (am_rv (am_rk 277) x) SH M' :=
  am_enter pn_J7_fill_53178 ml_J7_fill_53178 rfl (Nat.le_of_ble_eq_true rfl) ⟨Nat.le_refl _, Nat.le_refl _⟩ (rs_J7_fill_53178_37_e (ls_J7_fill_53178_37_1 (rs_J7_fill_53178_37_3) 1000) v1 M h)
noncomputable def F_X4_tollNothing_36 : Nat → List am_V → am_M → am_Rs := fun k as M => if k = 277 then (match as with
  | [.inr (.inr (some 37)), .inl a1] => X_J7_fill_53178_37 a1 M
  | _ => none) else none
theorem fs_X4_tollNothing_36 : am_FS SH F_X4_tollNothing_36 := by
  intro k as M x M' h
  unfold F_X4_tollNothing_36 at h
  split at h
  · rename_i hk; subst hk
    split at h
    · exact dc_J7_fill_53178_37 _ _ _ _ h
    · cases h
  cases h
noncomputable def X_X4_tollNothing_36 (M : am_M) : am_Rs :=
  (X_J7_fill_53178_37 0 M).bind fun z1 =>
  some (0, z1.2)
set_option maxRecDepth 100000 in
theorem dc_X4_tollNothing_36 (M M' : am_M) (x : Int) (h : X_X4_tollNothing_36 M = some (x, M')) : am_Calls 55 [.inr (.inr (some 36))] SH M (am_rv (am_rk 55) x) SH M' :=
  vCall (F := F_X4_tollNothing_36) (C := fun _ _ _ _ => none) (fu := 3) ok_X4_tollNothing pn_X4_tollNothing ml_X4_tollNothing rfl (Nat.le_of_ble_eq_true rfl) fs_X4_tollNothing_36 (fun _ _ _ _ h => by cases h) h
noncomputable def X_X4_setCost_36 (v1 v2 v3 : Int) (M : am_M) : am_Rs :=
  if wI v1 < 0 then
   some (0, M)
  else if 20 < wI v1 then
   some (0, M)
  else if wI v2 < 0 then
   some (0, M)
  else if wI v2 < 13 then
   if 0 ≤ wI ((v1 * 13) + v2) ∧ wI ((v1 * 13) + v2) < 273 then
   some (0, (am_up M 38 (wI ((v1 * 13) + v2)).toNat v3))
   else none
  else some (0, M)
set_option maxRecDepth 100000 in
theorem dc_X4_setCost_36 (v1 v2 v3 : Int) (M M' : am_M) (x : Int) (h : X_X4_setCost_36 v1 v2 v3 M = some (x, M')) : am_Calls 63 [.inr (.inr (some 36)), .inl v1, .inl v2, .inl v3] SH M (am_rv (am_rk 63) x) SH M' :=
  vCall (F := F_none) (C := fun _ _ _ _ => none) (fu := 8) ok_X4_setCost pn_X4_setCost ml_X4_setCost rfl (Nat.le_of_ble_eq_true rfl) fs_none (fun _ _ _ _ h => by cases h) h
noncomputable def X_X4_costFrom_36 (v1 v2 : Int) (M : am_M) : am_Rs :=
  if wI v1 < 0 then
   some (1000000, M)
  else if 20 < wI v1 then
   some (1000000, M)
  else if wI v2 < 0 then
   some (1000000, M)
  else if wI v2 < 13 then
   if 0 ≤ wI ((v1 * 13) + v2) ∧ wI ((v1 * 13) + v2) < 273 then
   some (M 38 (wI ((v1 * 13) + v2)).toNat, M)
   else none
  else some (1000000, M)
set_option maxRecDepth 100000 in
theorem dc_X4_costFrom_36 (v1 v2 : Int) (M M' : am_M) (x : Int) (h : X_X4_costFrom_36 v1 v2 M = some (x, M')) : am_Calls 62 [.inr (.inr (some 36)), .inl v1, .inl v2] SH M (am_rv (am_rk 62) x) SH M' :=
  vCall (F := F_none) (C := fun _ _ _ _ => none) (fu := 8) ok_X4_costFrom pn_X4_costFrom ml_X4_costFrom rfl (Nat.le_of_ble_eq_true rfl) fs_none (fun _ _ _ _ h => by cases h) h
noncomputable def F_X4_costBy_36 : Nat → List am_V → am_M → am_Rs := fun k as M => if k = 41 then (match as with
  | [.inr (.inr (some 11)), .inl a1, .inl a2, .inl a3] => X_X2_rudeness_11 a1 a2 a3 M
  | _ => none) else if k = 58 then (match as with
  | [.inr (.inr (some 36)), .inl a1, .inl a2] => X_X4_tollAt_36 a1 a2 M
  | _ => none) else if k = 62 then (match as with
  | [.inr (.inr (some 36)), .inl a1, .inl a2] => X_X4_costFrom_36 a1 a2 M
  | _ => none) else none
theorem fs_X4_costBy_36 : am_FS SH F_X4_costBy_36 := by
  intro k as M x M' h
  unfold F_X4_costBy_36 at h
  split at h
  · rename_i hk; subst hk
    split at h
    · exact dc_X2_rudeness_11 _ _ _ _ _ _ h
    · cases h
  split at h
  · rename_i hk; subst hk
    split at h
    · exact dc_X4_tollAt_36 _ _ _ _ _ h
    · cases h
  split at h
  · rename_i hk; subst hk
    split at h
    · exact dc_X4_costFrom_36 _ _ _ _ _ h
    · cases h
  cases h
noncomputable def X_X4_costBy_36 (v1 v2 v3 : Int) (M : am_M) : am_Rs :=
  (X_X2_rudeness_11 v2 v3 ((M 14 0) + v1) M).bind fun z1 =>
  (X_X4_costFrom_36 (v1 + 1) (v2 + v3) z1.2).bind fun z2 =>
  if wI z1.1 < 0 then
   some (1000000, z2.2)
  else if wI z2.1 < 1000000 then
   if wI (z2.2 36 6) = 0 then
    (X_X4_tollAt_36 (v2 + v3) ((M 14 0) + v1) z2.2).bind fun z3 =>
    some ((z2.1 + 0) + z3.1, z3.2)
   else (X_X4_tollAt_36 (v2 + v3) ((M 14 0) + v1) z2.2).bind fun z3 =>
   some ((z2.1 + z1.1) + z3.1, z3.2)
  else some (1000000, z2.2)
set_option maxRecDepth 100000 in
theorem dc_X4_costBy_36 (v1 v2 v3 : Int) (M M' : am_M) (x : Int) (h : X_X4_costBy_36 v1 v2 v3 M = some (x, M')) : am_Calls 61 [.inr (.inr (some 36)), .inl v1, .inl v2, .inl v3] SH M (am_rv (am_rk 61) x) SH M' :=
  vCall (F := F_X4_costBy_36) (C := fun _ _ _ _ => none) (fu := 9) ok_X4_costBy pn_X4_costBy ml_X4_costBy rfl (Nat.le_of_ble_eq_true rfl) fs_X4_costBy_36 (fun _ _ _ _ h => by cases h) h
noncomputable def F_X4_leastCost_36 : Nat → List am_V → am_M → am_Rs := fun k as M => if k = 61 then (match as with
  | [.inr (.inr (some 36)), .inl a1, .inl a2, .inl a3] => X_X4_costBy_36 a1 a2 a3 M
  | _ => none) else none
theorem fs_X4_leastCost_36 : am_FS SH F_X4_leastCost_36 := by
  intro k as M x M' h
  unfold F_X4_leastCost_36 at h
  split at h
  · rename_i hk; subst hk
    split at h
    · exact dc_X4_costBy_36 _ _ _ _ _ _ h
    · cases h
  cases h
noncomputable def XB_X4_leastCost_36_1 (c1 : Int → Int → Int → Int → am_M → am_Rs) (c3 : Int → am_M → am_Rs) (v1 v2 v3 v4 : Int) (M : am_M) : am_Rs :=
  if 1 < wI v4 then
   c3 v3 M
  else (X_X4_costBy_36 v1 v2 v4 M).bind fun z1 =>
  c1 v1 v2 (if wI z1.1 < wI v3 then z1.1 else v3) (v4 + 1) z1.2
set_option maxRecDepth 100000 in
theorem rs_X4_leastCost_36_1 {x : Int} {M' : am_M} {c1 : Int → Int → Int → Int → am_M → am_Rs} {c3 : Int → am_M → am_Rs} (h1 : ∀ w1 w2 w3 w4 M, c1 w1 w2 w3 w4 M = some (x, M') → am_R none 60 bk_X4_leastCost 1 (am_wr [39, 1, 1, 1, 1] [w1, w2, w3, w4]) [] SH M (am_rv (am_rk 60) x) SH M') (h3 : ∀ w3 M, c3 w3 M = some (x, M') → am_R none 60 bk_X4_leastCost 3 (am_wr [0, 0, 0, 1, 0] [w3]) [] SH M (am_rv (am_rk 60) x) SH M') (v1 v2 v3 v4 : Int) (M : am_M) (h : XB_X4_leastCost_36_1 c1 c3 v1 v2 v3 v4 M = some (x, M')) : am_R none 60 bk_X4_leastCost 1 (am_wr [39, 1, 1, 1, 1] [v1, v2, v3, v4]) [] SH M (am_rv (am_rk 60) x) SH M' :=
  vRegion (sc := none) (sh := SH) (F := F_X4_leastCost_36) (k := 60) (bs := bk_X4_leastCost) (r := (x, M')) (C := fun t lv st M => if t = 1 then vCt [39, 1, 1, 1, 1] (un4 c1) lv st M else if t = 3 then vCt [0, 0, 0, 1, 0] (un1 c3) lv st M else none) ok_X4_leastCost fs_X4_leastCost_36 (fun t lv st M h => by
    split at h
    · rename_i e; subst e; exact vCt_s (un4_s h1) h
    split at h
    · rename_i e; subst e; exact vCt_s (un1_s h3) h
    cases h) 6 1 (am_wr [39, 1, 1, 1, 1] [v1, v2, v3, v4]) [] M h
noncomputable def XB_X4_leastCost_36_3 (v3 : Int) (M : am_M) : am_Rs :=
  some (v3, M)
set_option maxRecDepth 100000 in
theorem rs_X4_leastCost_36_3 {x : Int} {M' : am_M} (v3 : Int) (M : am_M) (h : XB_X4_leastCost_36_3 v3 M = some (x, M')) : am_R none 60 bk_X4_leastCost 3 (am_wr [0, 0, 0, 1, 0] [v3]) [] SH M (am_rv (am_rk 60) x) SH M' :=
  vRegion (sc := none) (sh := SH) (F := F_X4_leastCost_36) (k := 60) (bs := bk_X4_leastCost) (r := (x, M')) (C := fun t lv st M => none) ok_X4_leastCost fs_X4_leastCost_36 (fun t lv st M h => by
    cases h) 6 3 (am_wr [0, 0, 0, 1, 0] [v3]) [] M h
noncomputable def XB_X4_leastCost_36_e (c1 : Int → Int → Int → Int → am_M → am_Rs) (v1 v2 : Int) (M : am_M) : am_Rs :=
  c1 v1 v2 1000000 (-1) M
set_option maxRecDepth 100000 in
theorem rs_X4_leastCost_36_e {x : Int} {M' : am_M} {c1 : Int → Int → Int → Int → am_M → am_Rs} (h1 : ∀ w1 w2 w3 w4 M, c1 w1 w2 w3 w4 M = some (x, M') → am_R none 60 bk_X4_leastCost 1 (am_wr [39, 1, 1, 1, 1] [w1, w2, w3, w4]) [] SH M (am_rv (am_rk 60) x) SH M') (v1 v2 : Int) (M : am_M) (h : XB_X4_leastCost_36_e c1 v1 v2 M = some (x, M')) : am_R none 60 bk_X4_leastCost 0 (am_ent 5 [.inr (.inr (some 36)), .inl v1, .inl v2]) [] SH M (am_rv (am_rk 60) x) SH M' :=
  vRegion (sc := none) (sh := SH) (F := F_X4_leastCost_36) (k := 60) (bs := bk_X4_leastCost) (r := (x, M')) (C := fun t lv st M => if t = 1 then vCt [39, 1, 1, 1, 1] (un4 c1) lv st M else none) ok_X4_leastCost fs_X4_leastCost_36 (fun t lv st M h => by
    split at h
    · rename_i e; subst e; exact vCt_s (un4_s h1) h
    cases h) 6 0 (am_ent 5 [.inr (.inr (some 36)), .inl v1, .inl v2]) [] M h
noncomputable def XL_X4_leastCost_36_1 (k3 : Int → am_M → am_Rs) : Nat → Int → Int → Int → Int → am_M → am_Rs
  | 0, _, _, _, _, _ => none
  | n + 1, v1, v2, v3, v4, M => XB_X4_leastCost_36_1 (XL_X4_leastCost_36_1 k3 n) k3 v1 v2 v3 v4 M
theorem ls_X4_leastCost_36_1 {x : Int} {M' : am_M} {k3 : Int → am_M → am_Rs} (hk3 : ∀ w3 M, k3 w3 M = some (x, M') → am_R none 60 bk_X4_leastCost 3 (am_wr [0, 0, 0, 1, 0] [w3]) [] SH M (am_rv (am_rk 60) x) SH M') : ∀ (n : Nat) (v1 v2 v3 v4 : Int) (M : am_M), XL_X4_leastCost_36_1 k3 n v1 v2 v3 v4 M = some (x, M') → am_R none 60 bk_X4_leastCost 1 (am_wr [39, 1, 1, 1, 1] [v1, v2, v3, v4]) [] SH M (am_rv (am_rk 60) x) SH M'
  | 0, v1, v2, v3, v4, M, h => by cases h
  | n + 1, v1, v2, v3, v4, M, h => rs_X4_leastCost_36_1 (ls_X4_leastCost_36_1 hk3 n) hk3 v1 v2 v3 v4 M h
noncomputable def X_X4_leastCost_36 (v1 v2 : Int) (M : am_M) : am_Rs := XB_X4_leastCost_36_e (XL_X4_leastCost_36_1 (XB_X4_leastCost_36_3) 1000) v1 v2 M
theorem dc_X4_leastCost_36 (v1 v2 : Int) (M M' : am_M) (x : Int) (h : X_X4_leastCost_36 v1 v2 M = some (x, M')) : am_Calls 60 [.inr (.inr (some 36)), .inl v1, .inl v2] SH M (am_rv (am_rk 60) x) SH M' :=
  am_enter pn_X4_leastCost ml_X4_leastCost rfl (Nat.le_of_ble_eq_true rfl) ⟨Nat.le_refl _, Nat.le_refl _⟩ (rs_X4_leastCost_36_e (ls_X4_leastCost_36_1 (rs_X4_leastCost_36_3) 1000) v1 v2 M h)
noncomputable def F_X4_solve_36 : Nat → List am_V → am_M → am_Rs := fun k as M => if k = 60 then (match as with
  | [.inr (.inr (some 36)), .inl a1, .inl a2] => X_X4_leastCost_36 a1 a2 M
  | _ => none) else if k = 63 then (match as with
  | [.inr (.inr (some 36)), .inl a1, .inl a2, .inl a3] => X_X4_setCost_36 a1 a2 a3 M
  | _ => none) else none
theorem fs_X4_solve_36 : am_FS SH F_X4_solve_36 := by
  intro k as M x M' h
  unfold F_X4_solve_36 at h
  split at h
  · rename_i hk; subst hk
    split at h
    · exact dc_X4_leastCost_36 _ _ _ _ _ h
    · cases h
  split at h
  · rename_i hk; subst hk
    split at h
    · exact dc_X4_setCost_36 _ _ _ _ _ _ h
    · cases h
  cases h
noncomputable def XB_X4_solve_36_1 (c1 : Int → Int → Int → am_M → am_Rs) (c7 : Int → am_M → am_Rs) (v1 v2 v4 : Int) (M : am_M) : am_Rs :=
  if wI (M 11 0) < wI v4 then
   c7 v1 M
  else if wI v2 = (-1) then
   (X_X4_setCost_36 v1 v4 0 M).bind fun z1 =>
   c1 v1 v2 (v4 + 1) z1.2
  else if wI v2 = wI v4 then
   (X_X4_setCost_36 v1 v4 0 M).bind fun z1 =>
   c1 v1 v2 (v4 + 1) z1.2
  else (X_X4_setCost_36 v1 v4 1000000 M).bind fun z1 =>
  c1 v1 v2 (v4 + 1) z1.2
set_option maxRecDepth 100000 in
theorem rs_X4_solve_36_1 {x : Int} {M' : am_M} {c1 : Int → Int → Int → am_M → am_Rs} {c7 : Int → am_M → am_Rs} (h1 : ∀ w1 w2 w4 M, c1 w1 w2 w4 M = some (x, M') → am_R none 59 bk_X4_solve 1 (am_wr [39, 1, 1, 0, 1, 0] [w1, w2, w4]) [] SH M (am_rv (am_rk 59) x) SH M') (h7 : ∀ w1 M, c7 w1 M = some (x, M') → am_R none 59 bk_X4_solve 7 (am_wr [39, 1, 0, 0, 0, 0] [w1]) [] SH M (am_rv (am_rk 59) x) SH M') (v1 v2 v4 : Int) (M : am_M) (h : XB_X4_solve_36_1 c1 c7 v1 v2 v4 M = some (x, M')) : am_R none 59 bk_X4_solve 1 (am_wr [39, 1, 1, 0, 1, 0] [v1, v2, v4]) [] SH M (am_rv (am_rk 59) x) SH M' :=
  vRegion (sc := none) (sh := SH) (F := F_X4_solve_36) (k := 59) (bs := bk_X4_solve) (r := (x, M')) (C := fun t lv st M => if t = 1 then vCt [39, 1, 1, 0, 1, 0] (un3 c1) lv st M else if t = 7 then vCt [39, 1, 0, 0, 0, 0] (un1 c7) lv st M else none) ok_X4_solve fs_X4_solve_36 (fun t lv st M h => by
    split at h
    · rename_i e; subst e; exact vCt_s (un3_s h1) h
    split at h
    · rename_i e; subst e; exact vCt_s (un1_s h7) h
    cases h) 16 1 (am_wr [39, 1, 1, 0, 1, 0] [v1, v2, v4]) [] M h
noncomputable def XB_X4_solve_36_7 (c8 : Int → am_M → am_Rs) (v1 : Int) (M : am_M) : am_Rs :=
  c8 (v1 - 1) M
set_option maxRecDepth 100000 in
theorem rs_X4_solve_36_7 {x : Int} {M' : am_M} {c8 : Int → am_M → am_Rs} (h8 : ∀ w4 M, c8 w4 M = some (x, M') → am_R none 59 bk_X4_solve 8 (am_wr [39, 0, 0, 0, 1, 0] [w4]) [] SH M (am_rv (am_rk 59) x) SH M') (v1 : Int) (M : am_M) (h : XB_X4_solve_36_7 c8 v1 M = some (x, M')) : am_R none 59 bk_X4_solve 7 (am_wr [39, 1, 0, 0, 0, 0] [v1]) [] SH M (am_rv (am_rk 59) x) SH M' :=
  vRegion (sc := none) (sh := SH) (F := F_X4_solve_36) (k := 59) (bs := bk_X4_solve) (r := (x, M')) (C := fun t lv st M => if t = 8 then vCt [39, 0, 0, 0, 1, 0] (un1 c8) lv st M else none) ok_X4_solve fs_X4_solve_36 (fun t lv st M h => by
    split at h
    · rename_i e; subst e; exact vCt_s (un1_s h8) h
    cases h) 16 7 (am_wr [39, 1, 0, 0, 0, 0] [v1]) [] M h
noncomputable def XB_X4_solve_36_8 (c10 : Int → Int → am_M → am_Rs) (c13 : am_M → am_Rs) (v4 : Int) (M : am_M) : am_Rs :=
  if wI v4 < 0 then
   c13 M
  else c10 v4 0 M
set_option maxRecDepth 100000 in
theorem rs_X4_solve_36_8 {x : Int} {M' : am_M} {c10 : Int → Int → am_M → am_Rs} {c13 : am_M → am_Rs} (h10 : ∀ w4 w5 M, c10 w4 w5 M = some (x, M') → am_R none 59 bk_X4_solve 10 (am_wr [39, 0, 0, 0, 1, 1] [w4, w5]) [] SH M (am_rv (am_rk 59) x) SH M') (h13 : ∀ M, c13 M = some (x, M') → am_R none 59 bk_X4_solve 13 (am_wr [0, 0, 0, 0, 0, 0] []) [] SH M (am_rv (am_rk 59) x) SH M') (v4 : Int) (M : am_M) (h : XB_X4_solve_36_8 c10 c13 v4 M = some (x, M')) : am_R none 59 bk_X4_solve 8 (am_wr [39, 0, 0, 0, 1, 0] [v4]) [] SH M (am_rv (am_rk 59) x) SH M' :=
  vRegion (sc := none) (sh := SH) (F := F_X4_solve_36) (k := 59) (bs := bk_X4_solve) (r := (x, M')) (C := fun t lv st M => if t = 10 then vCt [39, 0, 0, 0, 1, 1] (un2 c10) lv st M else if t = 13 then vCt [0, 0, 0, 0, 0, 0] (un0 c13) lv st M else none) ok_X4_solve fs_X4_solve_36 (fun t lv st M h => by
    split at h
    · rename_i e; subst e; exact vCt_s (un2_s h10) h
    split at h
    · rename_i e; subst e; exact vCt_s (un0_s h13) h
    cases h) 16 8 (am_wr [39, 0, 0, 0, 1, 0] [v4]) [] M h
noncomputable def XB_X4_solve_36_10 (c10 : Int → Int → am_M → am_Rs) (c12 : Int → am_M → am_Rs) (v4 v5 : Int) (M : am_M) : am_Rs :=
  if wI (M 11 0) < wI v5 then
   c12 v4 M
  else (X_X4_leastCost_36 v4 v5 M).bind fun z1 =>
  (X_X4_setCost_36 v4 v5 z1.1 z1.2).bind fun z2 =>
  c10 v4 (v5 + 1) z2.2
set_option maxRecDepth 100000 in
theorem rs_X4_solve_36_10 {x : Int} {M' : am_M} {c10 : Int → Int → am_M → am_Rs} {c12 : Int → am_M → am_Rs} (h10 : ∀ w4 w5 M, c10 w4 w5 M = some (x, M') → am_R none 59 bk_X4_solve 10 (am_wr [39, 0, 0, 0, 1, 1] [w4, w5]) [] SH M (am_rv (am_rk 59) x) SH M') (h12 : ∀ w4 M, c12 w4 M = some (x, M') → am_R none 59 bk_X4_solve 12 (am_wr [39, 0, 0, 0, 1, 0] [w4]) [] SH M (am_rv (am_rk 59) x) SH M') (v4 v5 : Int) (M : am_M) (h : XB_X4_solve_36_10 c10 c12 v4 v5 M = some (x, M')) : am_R none 59 bk_X4_solve 10 (am_wr [39, 0, 0, 0, 1, 1] [v4, v5]) [] SH M (am_rv (am_rk 59) x) SH M' :=
  vRegion (sc := none) (sh := SH) (F := F_X4_solve_36) (k := 59) (bs := bk_X4_solve) (r := (x, M')) (C := fun t lv st M => if t = 10 then vCt [39, 0, 0, 0, 1, 1] (un2 c10) lv st M else if t = 12 then vCt [39, 0, 0, 0, 1, 0] (un1 c12) lv st M else none) ok_X4_solve fs_X4_solve_36 (fun t lv st M h => by
    split at h
    · rename_i e; subst e; exact vCt_s (un2_s h10) h
    split at h
    · rename_i e; subst e; exact vCt_s (un1_s h12) h
    cases h) 16 10 (am_wr [39, 0, 0, 0, 1, 1] [v4, v5]) [] M h
noncomputable def XB_X4_solve_36_13 (M : am_M) : am_Rs :=
  some (0, M)
set_option maxRecDepth 100000 in
theorem rs_X4_solve_36_13 {x : Int} {M' : am_M} (M : am_M) (h : XB_X4_solve_36_13 M = some (x, M')) : am_R none 59 bk_X4_solve 13 (am_wr [0, 0, 0, 0, 0, 0] []) [] SH M (am_rv (am_rk 59) x) SH M' :=
  vRegion (sc := none) (sh := SH) (F := F_X4_solve_36) (k := 59) (bs := bk_X4_solve) (r := (x, M')) (C := fun t lv st M => none) ok_X4_solve fs_X4_solve_36 (fun t lv st M h => by
    cases h) 16 13 (am_wr [0, 0, 0, 0, 0, 0] []) [] M h
noncomputable def XB_X4_solve_36_12 (c8 : Int → am_M → am_Rs) (v4 : Int) (M : am_M) : am_Rs :=
  c8 (v4 + (-1)) M
set_option maxRecDepth 100000 in
theorem rs_X4_solve_36_12 {x : Int} {M' : am_M} {c8 : Int → am_M → am_Rs} (h8 : ∀ w4 M, c8 w4 M = some (x, M') → am_R none 59 bk_X4_solve 8 (am_wr [39, 0, 0, 0, 1, 0] [w4]) [] SH M (am_rv (am_rk 59) x) SH M') (v4 : Int) (M : am_M) (h : XB_X4_solve_36_12 c8 v4 M = some (x, M')) : am_R none 59 bk_X4_solve 12 (am_wr [39, 0, 0, 0, 1, 0] [v4]) [] SH M (am_rv (am_rk 59) x) SH M' :=
  vRegion (sc := none) (sh := SH) (F := F_X4_solve_36) (k := 59) (bs := bk_X4_solve) (r := (x, M')) (C := fun t lv st M => if t = 8 then vCt [39, 0, 0, 0, 1, 0] (un1 c8) lv st M else none) ok_X4_solve fs_X4_solve_36 (fun t lv st M h => by
    split at h
    · rename_i e; subst e; exact vCt_s (un1_s h8) h
    cases h) 16 12 (am_wr [39, 0, 0, 0, 1, 0] [v4]) [] M h
noncomputable def XB_X4_solve_36_e (c1 : Int → Int → Int → am_M → am_Rs) (v1 v2 v3 : Int) (M : am_M) : am_Rs :=
  if v3 = 0 ∨ v3 = 1 then
  c1 v1 v2 0 (am_up M 36 6 v3)
  else none
set_option maxRecDepth 100000 in
theorem rs_X4_solve_36_e {x : Int} {M' : am_M} {c1 : Int → Int → Int → am_M → am_Rs} (h1 : ∀ w1 w2 w4 M, c1 w1 w2 w4 M = some (x, M') → am_R none 59 bk_X4_solve 1 (am_wr [39, 1, 1, 0, 1, 0] [w1, w2, w4]) [] SH M (am_rv (am_rk 59) x) SH M') (v1 v2 v3 : Int) (M : am_M) (h : XB_X4_solve_36_e c1 v1 v2 v3 M = some (x, M')) : am_R none 59 bk_X4_solve 0 (am_ent 6 [.inr (.inr (some 36)), .inl v1, .inl v2, .inl v3]) [] SH M (am_rv (am_rk 59) x) SH M' :=
  vRegion (sc := none) (sh := SH) (F := F_X4_solve_36) (k := 59) (bs := bk_X4_solve) (r := (x, M')) (C := fun t lv st M => if t = 1 then vCt [39, 1, 1, 0, 1, 0] (un3 c1) lv st M else none) ok_X4_solve fs_X4_solve_36 (fun t lv st M h => by
    split at h
    · rename_i e; subst e; exact vCt_s (un3_s h1) h
    cases h) 16 0 (am_ent 6 [.inr (.inr (some 36)), .inl v1, .inl v2, .inl v3]) [] M h
noncomputable def XL_X4_solve_36_1 (k7 : Int → am_M → am_Rs) : Nat → Int → Int → Int → am_M → am_Rs
  | 0, _, _, _, _ => none
  | n + 1, v1, v2, v4, M => XB_X4_solve_36_1 (XL_X4_solve_36_1 k7 n) k7 v1 v2 v4 M
theorem ls_X4_solve_36_1 {x : Int} {M' : am_M} {k7 : Int → am_M → am_Rs} (hk7 : ∀ w1 M, k7 w1 M = some (x, M') → am_R none 59 bk_X4_solve 7 (am_wr [39, 1, 0, 0, 0, 0] [w1]) [] SH M (am_rv (am_rk 59) x) SH M') : ∀ (n : Nat) (v1 v2 v4 : Int) (M : am_M), XL_X4_solve_36_1 k7 n v1 v2 v4 M = some (x, M') → am_R none 59 bk_X4_solve 1 (am_wr [39, 1, 1, 0, 1, 0] [v1, v2, v4]) [] SH M (am_rv (am_rk 59) x) SH M'
  | 0, v1, v2, v4, M, h => by cases h
  | n + 1, v1, v2, v4, M, h => rs_X4_solve_36_1 (ls_X4_solve_36_1 hk7 n) hk7 v1 v2 v4 M h
noncomputable def XL_X4_solve_36_10 (k12 : Int → am_M → am_Rs) : Nat → Int → Int → am_M → am_Rs
  | 0, _, _, _ => none
  | n + 1, v4, v5, M => XB_X4_solve_36_10 (XL_X4_solve_36_10 k12 n) k12 v4 v5 M
theorem ls_X4_solve_36_10 {x : Int} {M' : am_M} {k12 : Int → am_M → am_Rs} (hk12 : ∀ w4 M, k12 w4 M = some (x, M') → am_R none 59 bk_X4_solve 12 (am_wr [39, 0, 0, 0, 1, 0] [w4]) [] SH M (am_rv (am_rk 59) x) SH M') : ∀ (n : Nat) (v4 v5 : Int) (M : am_M), XL_X4_solve_36_10 k12 n v4 v5 M = some (x, M') → am_R none 59 bk_X4_solve 10 (am_wr [39, 0, 0, 0, 1, 1] [v4, v5]) [] SH M (am_rv (am_rk 59) x) SH M'
  | 0, v4, v5, M, h => by cases h
  | n + 1, v4, v5, M, h => rs_X4_solve_36_10 (ls_X4_solve_36_10 hk12 n) hk12 v4 v5 M h
noncomputable def XL_X4_solve_36_8 (k13 : am_M → am_Rs) : Nat → Int → am_M → am_Rs
  | 0, _, _ => none
  | n + 1, v4, M => XB_X4_solve_36_8 (XL_X4_solve_36_10 (XB_X4_solve_36_12 (XL_X4_solve_36_8 k13 n)) 1000) k13 v4 M
theorem ls_X4_solve_36_8 {x : Int} {M' : am_M} {k13 : am_M → am_Rs} (hk13 : ∀ M, k13 M = some (x, M') → am_R none 59 bk_X4_solve 13 (am_wr [0, 0, 0, 0, 0, 0] []) [] SH M (am_rv (am_rk 59) x) SH M') : ∀ (n : Nat) (v4 : Int) (M : am_M), XL_X4_solve_36_8 k13 n v4 M = some (x, M') → am_R none 59 bk_X4_solve 8 (am_wr [39, 0, 0, 0, 1, 0] [v4]) [] SH M (am_rv (am_rk 59) x) SH M'
  | 0, v4, M, h => by cases h
  | n + 1, v4, M, h => rs_X4_solve_36_8 (ls_X4_solve_36_10 (rs_X4_solve_36_12 (ls_X4_solve_36_8 hk13 n)) 1000) hk13 v4 M h
noncomputable def X_X4_solve_36 (v1 v2 v3 : Int) (M : am_M) : am_Rs := XB_X4_solve_36_e (XL_X4_solve_36_1 (XB_X4_solve_36_7 (XL_X4_solve_36_8 (XB_X4_solve_36_13) 1000)) 1000) v1 v2 v3 M
theorem dc_X4_solve_36 (v1 v2 v3 : Int) (M M' : am_M) (x : Int) (h : X_X4_solve_36 v1 v2 v3 M = some (x, M')) : am_Calls 59 [.inr (.inr (some 36)), .inl v1, .inl v2, .inl v3] SH M (am_rv (am_rk 59) x) SH M' :=
  am_enter pn_X4_solve ml_X4_solve rfl (Nat.le_of_ble_eq_true rfl) ⟨Nat.le_refl _, Nat.le_refl _⟩ (rs_X4_solve_36_e (ls_X4_solve_36_1 (rs_X4_solve_36_7 (ls_X4_solve_36_8 (rs_X4_solve_36_13) 1000)) 1000) v1 v2 v3 M h)
noncomputable def F_X4_firstMove_36 : Nat → List am_V → am_M → am_Rs := fun k as M => if k = 61 then (match as with
  | [.inr (.inr (some 36)), .inl a1, .inl a2, .inl a3] => X_X4_costBy_36 a1 a2 a3 M
  | _ => none) else if k = 62 then (match as with
  | [.inr (.inr (some 36)), .inl a1, .inl a2] => X_X4_costFrom_36 a1 a2 M
  | _ => none) else none
theorem fs_X4_firstMove_36 : am_FS SH F_X4_firstMove_36 := by
  intro k as M x M' h
  unfold F_X4_firstMove_36 at h
  split at h
  · rename_i hk; subst hk
    split at h
    · exact dc_X4_costBy_36 _ _ _ _ _ _ h
    · cases h
  split at h
  · rename_i hk; subst hk
    split at h
    · exact dc_X4_costFrom_36 _ _ _ _ _ h
    · cases h
  cases h
noncomputable def XB_X4_firstMove_36_1 (c1 : Int → Int → Int → Int → am_M → am_Rs) (c5 : am_M → am_Rs) (v1 v2 v3 v4 : Int) (M : am_M) : am_Rs :=
  if 1 < wI v4 then
   c5 M
  else (X_X4_costBy_36 v1 v2 v4 M).bind fun z1 =>
  if wI z1.1 = wI v3 then
   some (v4, z1.2)
  else c1 v1 v2 v3 (v4 + 1) z1.2
set_option maxRecDepth 100000 in
theorem rs_X4_firstMove_36_1 {x : Int} {M' : am_M} {c1 : Int → Int → Int → Int → am_M → am_Rs} {c5 : am_M → am_Rs} (h1 : ∀ w1 w2 w3 w4 M, c1 w1 w2 w3 w4 M = some (x, M') → am_R none 64 bk_X4_firstMove 1 (am_wr [39, 1, 1, 1, 1] [w1, w2, w3, w4]) [] SH M (am_rv (am_rk 64) x) SH M') (h5 : ∀ M, c5 M = some (x, M') → am_R none 64 bk_X4_firstMove 5 (am_wr [0, 0, 0, 0, 0] []) [] SH M (am_rv (am_rk 64) x) SH M') (v1 v2 v3 v4 : Int) (M : am_M) (h : XB_X4_firstMove_36_1 c1 c5 v1 v2 v3 v4 M = some (x, M')) : am_R none 64 bk_X4_firstMove 1 (am_wr [39, 1, 1, 1, 1] [v1, v2, v3, v4]) [] SH M (am_rv (am_rk 64) x) SH M' :=
  vRegion (sc := none) (sh := SH) (F := F_X4_firstMove_36) (k := 64) (bs := bk_X4_firstMove) (r := (x, M')) (C := fun t lv st M => if t = 1 then vCt [39, 1, 1, 1, 1] (un4 c1) lv st M else if t = 5 then vCt [0, 0, 0, 0, 0] (un0 c5) lv st M else none) ok_X4_firstMove fs_X4_firstMove_36 (fun t lv st M h => by
    split at h
    · rename_i e; subst e; exact vCt_s (un4_s h1) h
    split at h
    · rename_i e; subst e; exact vCt_s (un0_s h5) h
    cases h) 8 1 (am_wr [39, 1, 1, 1, 1] [v1, v2, v3, v4]) [] M h
noncomputable def XB_X4_firstMove_36_5 (M : am_M) : am_Rs :=
  some (0, M)
set_option maxRecDepth 100000 in
theorem rs_X4_firstMove_36_5 {x : Int} {M' : am_M} (M : am_M) (h : XB_X4_firstMove_36_5 M = some (x, M')) : am_R none 64 bk_X4_firstMove 5 (am_wr [0, 0, 0, 0, 0] []) [] SH M (am_rv (am_rk 64) x) SH M' :=
  vRegion (sc := none) (sh := SH) (F := F_X4_firstMove_36) (k := 64) (bs := bk_X4_firstMove) (r := (x, M')) (C := fun t lv st M => none) ok_X4_firstMove fs_X4_firstMove_36 (fun t lv st M h => by
    cases h) 8 5 (am_wr [0, 0, 0, 0, 0] []) [] M h
noncomputable def XB_X4_firstMove_36_e (c1 : Int → Int → Int → Int → am_M → am_Rs) (v1 v2 : Int) (M : am_M) : am_Rs :=
  (X_X4_costFrom_36 v1 v2 M).bind fun z1 =>
  c1 v1 v2 z1.1 (-1) z1.2
set_option maxRecDepth 100000 in
theorem rs_X4_firstMove_36_e {x : Int} {M' : am_M} {c1 : Int → Int → Int → Int → am_M → am_Rs} (h1 : ∀ w1 w2 w3 w4 M, c1 w1 w2 w3 w4 M = some (x, M') → am_R none 64 bk_X4_firstMove 1 (am_wr [39, 1, 1, 1, 1] [w1, w2, w3, w4]) [] SH M (am_rv (am_rk 64) x) SH M') (v1 v2 : Int) (M : am_M) (h : XB_X4_firstMove_36_e c1 v1 v2 M = some (x, M')) : am_R none 64 bk_X4_firstMove 0 (am_ent 5 [.inr (.inr (some 36)), .inl v1, .inl v2]) [] SH M (am_rv (am_rk 64) x) SH M' :=
  vRegion (sc := none) (sh := SH) (F := F_X4_firstMove_36) (k := 64) (bs := bk_X4_firstMove) (r := (x, M')) (C := fun t lv st M => if t = 1 then vCt [39, 1, 1, 1, 1] (un4 c1) lv st M else none) ok_X4_firstMove fs_X4_firstMove_36 (fun t lv st M h => by
    split at h
    · rename_i e; subst e; exact vCt_s (un4_s h1) h
    cases h) 8 0 (am_ent 5 [.inr (.inr (some 36)), .inl v1, .inl v2]) [] M h
noncomputable def XL_X4_firstMove_36_1 (k5 : am_M → am_Rs) : Nat → Int → Int → Int → Int → am_M → am_Rs
  | 0, _, _, _, _, _ => none
  | n + 1, v1, v2, v3, v4, M => XB_X4_firstMove_36_1 (XL_X4_firstMove_36_1 k5 n) k5 v1 v2 v3 v4 M
theorem ls_X4_firstMove_36_1 {x : Int} {M' : am_M} {k5 : am_M → am_Rs} (hk5 : ∀ M, k5 M = some (x, M') → am_R none 64 bk_X4_firstMove 5 (am_wr [0, 0, 0, 0, 0] []) [] SH M (am_rv (am_rk 64) x) SH M') : ∀ (n : Nat) (v1 v2 v3 v4 : Int) (M : am_M), XL_X4_firstMove_36_1 k5 n v1 v2 v3 v4 M = some (x, M') → am_R none 64 bk_X4_firstMove 1 (am_wr [39, 1, 1, 1, 1] [v1, v2, v3, v4]) [] SH M (am_rv (am_rk 64) x) SH M'
  | 0, v1, v2, v3, v4, M, h => by cases h
  | n + 1, v1, v2, v3, v4, M, h => rs_X4_firstMove_36_1 (ls_X4_firstMove_36_1 hk5 n) hk5 v1 v2 v3 v4 M h
noncomputable def X_X4_firstMove_36 (v1 v2 : Int) (M : am_M) : am_Rs := XB_X4_firstMove_36_e (XL_X4_firstMove_36_1 (XB_X4_firstMove_36_5) 1000) v1 v2 M
theorem dc_X4_firstMove_36 (v1 v2 : Int) (M M' : am_M) (x : Int) (h : X_X4_firstMove_36 v1 v2 M = some (x, M')) : am_Calls 64 [.inr (.inr (some 36)), .inl v1, .inl v2] SH M (am_rv (am_rk 64) x) SH M' :=
  am_enter pn_X4_firstMove ml_X4_firstMove rfl (Nat.le_of_ble_eq_true rfl) ⟨Nat.le_refl _, Nat.le_refl _⟩ (rs_X4_firstMove_36_e (ls_X4_firstMove_36_1 (rs_X4_firstMove_36_5) 1000) v1 v2 M h)
noncomputable def F_X8_layPlan_0 : Nat → List am_V → am_M → am_Rs := fun k as M => if k = 64 then (match as with
  | [.inr (.inr (some 36)), .inl a1, .inl a2] => X_X4_firstMove_36 a1 a2 M
  | _ => none) else if k = 86 then (match as with
  | [.inr (.inr (some 1)), .inl a1, .inl a2] => X_X6_make_1 a1 a2 M
  | _ => none) else if k = 89 then (match as with
  | [.inr (.inr (some 1)), .inl a1, .inl a2, .inl a3] => X_X6_set_1 a1 a2 a3 M
  | _ => none) else none
theorem fs_X8_layPlan_0 : am_FS SH F_X8_layPlan_0 := by
  intro k as M x M' h
  unfold F_X8_layPlan_0 at h
  split at h
  · rename_i hk; subst hk
    split at h
    · exact dc_X4_firstMove_36 _ _ _ _ _ h
    · cases h
  split at h
  · rename_i hk; subst hk
    split at h
    · exact dc_X6_make_1 _ _ _ _ _ h
    · cases h
  split at h
  · rename_i hk; subst hk
    split at h
    · exact dc_X6_set_1 _ _ _ _ _ _ h
    · cases h
  cases h
noncomputable def XB_X8_layPlan_0_1 (c1 : Int → Int → Int → Int → am_M → am_Rs) (c3 : am_M → am_Rs) (v1 v2 v3 v4 : Int) (M : am_M) : am_Rs :=
  if wI v4 < wI v1 then
   (X_X4_firstMove_36 v4 v3 M).bind fun z1 =>
   (X_X6_set_1 v2 v4 z1.1 z1.2).bind fun z2 =>
   c1 v1 v2 (v3 + z1.1) (v4 + 1) z2.2
  else c3 M
set_option maxRecDepth 100000 in
theorem rs_X8_layPlan_0_1 {x : Int} {M' : am_M} {c1 : Int → Int → Int → Int → am_M → am_Rs} {c3 : am_M → am_Rs} (h1 : ∀ w1 w2 w3 w4 M, c1 w1 w2 w3 w4 M = some (x, M') → am_R none 164 bk_X8_layPlan 1 (am_wr [3, 1, 1, 1, 1, 0] [w1, w2, w3, w4]) [] SH M (am_rv (am_rk 164) x) SH M') (h3 : ∀ M, c3 M = some (x, M') → am_R none 164 bk_X8_layPlan 3 (am_wr [0, 0, 0, 0, 0, 0] []) [] SH M (am_rv (am_rk 164) x) SH M') (v1 v2 v3 v4 : Int) (M : am_M) (h : XB_X8_layPlan_0_1 c1 c3 v1 v2 v3 v4 M = some (x, M')) : am_R none 164 bk_X8_layPlan 1 (am_wr [3, 1, 1, 1, 1, 0] [v1, v2, v3, v4]) [] SH M (am_rv (am_rk 164) x) SH M' :=
  vRegion (sc := none) (sh := SH) (F := F_X8_layPlan_0) (k := 164) (bs := bk_X8_layPlan) (r := (x, M')) (C := fun t lv st M => if t = 1 then vCt [3, 1, 1, 1, 1, 0] (un4 c1) lv st M else if t = 3 then vCt [0, 0, 0, 0, 0, 0] (un0 c3) lv st M else none) ok_X8_layPlan fs_X8_layPlan_0 (fun t lv st M h => by
    split at h
    · rename_i e; subst e; exact vCt_s (un4_s h1) h
    split at h
    · rename_i e; subst e; exact vCt_s (un0_s h3) h
    cases h) 6 1 (am_wr [3, 1, 1, 1, 1, 0] [v1, v2, v3, v4]) [] M h
noncomputable def XB_X8_layPlan_0_3 (M : am_M) : am_Rs :=
  some (0, M)
set_option maxRecDepth 100000 in
theorem rs_X8_layPlan_0_3 {x : Int} {M' : am_M} (M : am_M) (h : XB_X8_layPlan_0_3 M = some (x, M')) : am_R none 164 bk_X8_layPlan 3 (am_wr [0, 0, 0, 0, 0, 0] []) [] SH M (am_rv (am_rk 164) x) SH M' :=
  vRegion (sc := none) (sh := SH) (F := F_X8_layPlan_0) (k := 164) (bs := bk_X8_layPlan) (r := (x, M')) (C := fun t lv st M => none) ok_X8_layPlan fs_X8_layPlan_0 (fun t lv st M h => by
    cases h) 6 3 (am_wr [0, 0, 0, 0, 0, 0] []) [] M h
noncomputable def XB_X8_layPlan_0_e (c1 : Int → Int → Int → Int → am_M → am_Rs) (v1 v2 : Int) (M : am_M) : am_Rs :=
  (X_X6_make_1 v2 v1 M).bind fun z1 =>
  c1 v1 v2 (z1.2 14 1) 0 z1.2
set_option maxRecDepth 100000 in
theorem rs_X8_layPlan_0_e {x : Int} {M' : am_M} {c1 : Int → Int → Int → Int → am_M → am_Rs} (h1 : ∀ w1 w2 w3 w4 M, c1 w1 w2 w3 w4 M = some (x, M') → am_R none 164 bk_X8_layPlan 1 (am_wr [3, 1, 1, 1, 1, 0] [w1, w2, w3, w4]) [] SH M (am_rv (am_rk 164) x) SH M') (v1 v2 : Int) (M : am_M) (h : XB_X8_layPlan_0_e c1 v1 v2 M = some (x, M')) : am_R none 164 bk_X8_layPlan 0 (am_ent 6 [.inr (.inr (some 0)), .inl v1, .inl v2]) [] SH M (am_rv (am_rk 164) x) SH M' :=
  vRegion (sc := none) (sh := SH) (F := F_X8_layPlan_0) (k := 164) (bs := bk_X8_layPlan) (r := (x, M')) (C := fun t lv st M => if t = 1 then vCt [3, 1, 1, 1, 1, 0] (un4 c1) lv st M else none) ok_X8_layPlan fs_X8_layPlan_0 (fun t lv st M h => by
    split at h
    · rename_i e; subst e; exact vCt_s (un4_s h1) h
    cases h) 6 0 (am_ent 6 [.inr (.inr (some 0)), .inl v1, .inl v2]) [] M h
noncomputable def XL_X8_layPlan_0_1 (k3 : am_M → am_Rs) : Nat → Int → Int → Int → Int → am_M → am_Rs
  | 0, _, _, _, _, _ => none
  | n + 1, v1, v2, v3, v4, M => XB_X8_layPlan_0_1 (XL_X8_layPlan_0_1 k3 n) k3 v1 v2 v3 v4 M
theorem ls_X8_layPlan_0_1 {x : Int} {M' : am_M} {k3 : am_M → am_Rs} (hk3 : ∀ M, k3 M = some (x, M') → am_R none 164 bk_X8_layPlan 3 (am_wr [0, 0, 0, 0, 0, 0] []) [] SH M (am_rv (am_rk 164) x) SH M') : ∀ (n : Nat) (v1 v2 v3 v4 : Int) (M : am_M), XL_X8_layPlan_0_1 k3 n v1 v2 v3 v4 M = some (x, M') → am_R none 164 bk_X8_layPlan 1 (am_wr [3, 1, 1, 1, 1, 0] [v1, v2, v3, v4]) [] SH M (am_rv (am_rk 164) x) SH M'
  | 0, v1, v2, v3, v4, M, h => by cases h
  | n + 1, v1, v2, v3, v4, M, h => rs_X8_layPlan_0_1 (ls_X8_layPlan_0_1 hk3 n) hk3 v1 v2 v3 v4 M h
noncomputable def X_X8_layPlan_0 (v1 v2 : Int) (M : am_M) : am_Rs := XB_X8_layPlan_0_e (XL_X8_layPlan_0_1 (XB_X8_layPlan_0_3) 1000) v1 v2 M
theorem dc_X8_layPlan_0 (v1 v2 : Int) (M M' : am_M) (x : Int) (h : X_X8_layPlan_0 v1 v2 M = some (x, M')) : am_Calls 164 [.inr (.inr (some 0)), .inl v1, .inl v2] SH M (am_rv (am_rk 164) x) SH M' :=
  am_enter pn_X8_layPlan ml_X8_layPlan rfl (Nat.le_of_ble_eq_true rfl) ⟨Nat.le_refl _, Nat.le_refl _⟩ (rs_X8_layPlan_0_e (ls_X8_layPlan_0_1 (rs_X8_layPlan_0_3) 1000) v1 v2 M h)
noncomputable def F_X8_soonest_0 : Nat → List am_V → am_M → am_Rs := fun k as M => if k = 34 then (match as with
  | [.inr (.inr (some 11)), .inl a1] => X_X2_isPlace_11 a1 M
  | _ => none) else if k = 55 then (match as with
  | [.inr (.inr (some 36))] => X_X4_tollNothing_36 M
  | _ => none) else if k = 59 then (match as with
  | [.inr (.inr (some 36)), .inl a1, .inl a2, .inl a3] => X_X4_solve_36 a1 a2 a3 M
  | _ => none) else if k = 65 then (match as with
  | [.inr (.inr (some 36)), .inl a1] => X_X4_fewestDaysTo_36 a1 M
  | _ => none) else if k = 81 then (match as with
  | [.inr (.inr (some 1)), .inl a1] => X_X6_isNumber_1 a1 M
  | _ => none) else if k = 158 then (match as with
  | [.inr (.inr (some 0))] => X_X8_hasNoLand_0 M
  | _ => none) else if k = 164 then (match as with
  | [.inr (.inr (some 0)), .inl a1, .inl a2] => X_X8_layPlan_0 a1 a2 M
  | _ => none) else none
theorem fs_X8_soonest_0 : am_FS SH F_X8_soonest_0 := by
  intro k as M x M' h
  unfold F_X8_soonest_0 at h
  split at h
  · rename_i hk; subst hk
    split at h
    · exact dc_X2_isPlace_11 _ _ _ _ h
    · cases h
  split at h
  · rename_i hk; subst hk
    split at h
    · exact dc_X4_tollNothing_36 _ _ _ h
    · cases h
  split at h
  · rename_i hk; subst hk
    split at h
    · exact dc_X4_solve_36 _ _ _ _ _ _ h
    · cases h
  split at h
  · rename_i hk; subst hk
    split at h
    · exact dc_X4_fewestDaysTo_36 _ _ _ _ h
    · cases h
  split at h
  · rename_i hk; subst hk
    split at h
    · exact dc_X6_isNumber_1 _ _ _ _ h
    · cases h
  split at h
  · rename_i hk; subst hk
    split at h
    · exact dc_X8_hasNoLand_0 _ _ _ h
    · cases h
  split at h
  · rename_i hk; subst hk
    split at h
    · exact dc_X8_layPlan_0 _ _ _ _ _ h
    · cases h
  cases h
noncomputable def X_X8_soonest_0 (v1 v2 : Int) (M : am_M) : am_Rs :=
  (X_X2_isPlace_11 v1 M).bind fun z1 =>
  if wI z1.1 = 0 then
   some ((-1), z1.2)
  else (X_X6_isNumber_1 v2 z1.2).bind fun z2 =>
  if wI z2.1 = 0 then
   some ((-1), z2.2)
  else (X_X8_hasNoLand_0 z2.2).bind fun z3 =>
  if wI z3.1 = 0 then
   (X_X4_fewestDaysTo_36 v1 z3.2).bind fun z4 =>
   if wI z4.1 < 0 then
    some ((-9), z4.2)
   else (X_X4_tollNothing_36 z4.2).bind fun z5 =>
   (X_X4_solve_36 z4.1 v1 0 z5.2).bind fun z6 =>
   (X_X8_layPlan_0 z4.1 v2 z6.2).bind fun z7 =>
   some (z4.1, z7.2)
  else some ((-4), z3.2)
set_option maxRecDepth 100000 in
theorem dc_X8_soonest_0 (v1 v2 : Int) (M M' : am_M) (x : Int) (h : X_X8_soonest_0 v1 v2 M = some (x, M')) : am_Calls 130 [.inr (.inr (some 0)), .inl v1, .inl v2] SH M (am_rv (am_rk 130) x) SH M' :=
  vCall (F := F_X8_soonest_0) (C := fun _ _ _ _ => none) (fu := 10) ok_X8_soonest pn_X8_soonest ml_X8_soonest rfl (Nat.le_of_ble_eq_true rfl) fs_X8_soonest_0 (fun _ _ _ _ h => by cases h) h
noncomputable def X_X8_isPlanLength (v0 : Int) (M : am_M) : am_Rs :=
  if wI v0 < 0 then
   some (0, M)
  else if 20 < wI v0 then
   some (0, M)
  else some (1, M)
set_option maxRecDepth 100000 in
theorem dc_X8_isPlanLength (v0 : Int) (M M' : am_M) (x : Int) (h : X_X8_isPlanLength v0 M = some (x, M')) : am_Calls 160 [.inl v0] SH M (am_rv (am_rk 160) x) SH M' :=
  vCall (F := F_none) (C := fun _ _ _ _ => none) (fu := 7) ok_X8_isPlanLength pn_X8_isPlanLength ml_X8_isPlanLength rfl (Nat.le_of_ble_eq_true rfl) fs_none (fun _ _ _ _ h => by cases h) h
noncomputable def F_X8_polite_0 : Nat → List am_V → am_M → am_Rs := fun k as M => if k = 34 then (match as with
  | [.inr (.inr (some 11)), .inl a1] => X_X2_isPlace_11 a1 M
  | _ => none) else if k = 55 then (match as with
  | [.inr (.inr (some 36))] => X_X4_tollNothing_36 M
  | _ => none) else if k = 59 then (match as with
  | [.inr (.inr (some 36)), .inl a1, .inl a2, .inl a3] => X_X4_solve_36 a1 a2 a3 M
  | _ => none) else if k = 62 then (match as with
  | [.inr (.inr (some 36)), .inl a1, .inl a2] => X_X4_costFrom_36 a1 a2 M
  | _ => none) else if k = 81 then (match as with
  | [.inr (.inr (some 1)), .inl a1] => X_X6_isNumber_1 a1 M
  | _ => none) else if k = 158 then (match as with
  | [.inr (.inr (some 0))] => X_X8_hasNoLand_0 M
  | _ => none) else if k = 160 then (match as with
  | [.inl a0] => X_X8_isPlanLength a0 M
  | _ => none) else if k = 164 then (match as with
  | [.inr (.inr (some 0)), .inl a1, .inl a2] => X_X8_layPlan_0 a1 a2 M
  | _ => none) else none
theorem fs_X8_polite_0 : am_FS SH F_X8_polite_0 := by
  intro k as M x M' h
  unfold F_X8_polite_0 at h
  split at h
  · rename_i hk; subst hk
    split at h
    · exact dc_X2_isPlace_11 _ _ _ _ h
    · cases h
  split at h
  · rename_i hk; subst hk
    split at h
    · exact dc_X4_tollNothing_36 _ _ _ h
    · cases h
  split at h
  · rename_i hk; subst hk
    split at h
    · exact dc_X4_solve_36 _ _ _ _ _ _ h
    · cases h
  split at h
  · rename_i hk; subst hk
    split at h
    · exact dc_X4_costFrom_36 _ _ _ _ _ h
    · cases h
  split at h
  · rename_i hk; subst hk
    split at h
    · exact dc_X6_isNumber_1 _ _ _ _ h
    · cases h
  split at h
  · rename_i hk; subst hk
    split at h
    · exact dc_X8_hasNoLand_0 _ _ _ h
    · cases h
  split at h
  · rename_i hk; subst hk
    split at h
    · exact dc_X8_isPlanLength _ _ _ _ h
    · cases h
  split at h
  · rename_i hk; subst hk
    split at h
    · exact dc_X8_layPlan_0 _ _ _ _ _ h
    · cases h
  cases h
noncomputable def X_X8_polite_0 (v1 v2 v3 : Int) (M : am_M) : am_Rs :=
  (X_X2_isPlace_11 v1 M).bind fun z1 =>
  if wI z1.1 = 0 then
   some ((-1), z1.2)
  else (X_X8_isPlanLength v2 z1.2).bind fun z2 =>
  if wI z2.1 = 0 then
   some ((-1), z2.2)
  else (X_X6_isNumber_1 v3 z2.2).bind fun z3 =>
  if wI z3.1 = 0 then
   some ((-1), z3.2)
  else (X_X8_hasNoLand_0 z3.2).bind fun z4 =>
  if wI z4.1 = 0 then
   (X_X4_tollNothing_36 z4.2).bind fun z5 =>
   (X_X4_solve_36 v2 v1 1 z5.2).bind fun z6 =>
   (X_X4_costFrom_36 0 (z6.2 14 1) z6.2).bind fun z7 =>
   if wI z7.1 < 1000000 then
    (X_X8_layPlan_0 v2 v3 z7.2).bind fun z8 =>
    some (z7.1, z8.2)
   else some ((-9), z7.2)
  else some ((-4), z4.2)
set_option maxRecDepth 100000 in
theorem dc_X8_polite_0 (v1 v2 v3 : Int) (M M' : am_M) (x : Int) (h : X_X8_polite_0 v1 v2 v3 M = some (x, M')) : am_Calls 131 [.inr (.inr (some 0)), .inl v1, .inl v2, .inl v3] SH M (am_rv (am_rk 131) x) SH M' :=
  vCall (F := F_X8_polite_0) (C := fun _ _ _ _ => none) (fu := 11) ok_X8_polite pn_X8_polite ml_X8_polite rfl (Nat.le_of_ble_eq_true rfl) fs_X8_polite_0 (fun _ _ _ _ h => by cases h) h
