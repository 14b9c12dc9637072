section
noncomputable def F_none : Nat → List am_V → am_M → am_Rs := fun _ _ _ => none
theorem fs_none : am_FS SH F_none := fun _ _ _ _ _ h => by cases h
noncomputable def X_X6_isNumber_1 (v1 : Int) (M : am_M) : am_Rs :=
  if wI v1 < 0 then
   some (0, M)
  else if wI v1 < wI (M 1 0) then
   some (1, M)
  else some (0, M)
set_option maxRecDepth 100000 in
theorem dc_X6_isNumber_1 (v1 : Int) (M M' : am_M) (x : Int) (h : X_X6_isNumber_1 v1 M = some (x, M')) : am_Calls 81 [.inr (.inr (some 1)), .inl v1] SH M (am_rv (am_rk 81) x) SH M' :=
  vCall (F := F_none) (C := fun _ _ _ _ => none) (fu := 7) ok_X6_isNumber pn_X6_isNumber ml_X6_isNumber rfl (Nat.le_of_ble_eq_true rfl) fs_none (fun _ _ _ _ h => by cases h) h
noncomputable def F_X6_make_1 : Nat → List am_V → am_M → am_Rs := fun k as M => if k = 81 then (match as with
  | [.inr (.inr (some 1)), .inl a1] => X_X6_isNumber_1 a1 M
  | _ => none) else none
theorem fs_X6_make_1 : am_FS SH F_X6_make_1 := by
  intro k as M x M' h
  unfold F_X6_make_1 at h
  split at h
  · rename_i hk; subst hk
    split at h
    · exact dc_X6_isNumber_1 _ _ _ _ h
    · cases h
  cases h
noncomputable def XB_X6_make_1_5 (c5 : Int → Int → Int → am_M → am_Rs) (c7 : am_M → am_Rs) (v1 v2 v3 : Int) (M : am_M) : am_Rs :=
  if wI v3 < wI v2 then
   if 0 ≤ wI ((v1 * (M 1 1)) + v3) ∧ wI ((v1 * (M 1 1)) + v3) < 240 then
   c5 v1 v2 (v3 + 1) (am_up M 3 (wI ((v1 * (M 1 1)) + v3)).toNat (M 1 2))
   else none
  else c7 M
set_option maxRecDepth 100000 in
theorem rs_X6_make_1_5 {x : Int} {M' : am_M} {c5 : Int → Int → Int → am_M → am_Rs} {c7 : am_M → am_Rs} (h5 : ∀ w1 w2 w3 M, c5 w1 w2 w3 M = some (x, M') → am_R none 86 bk_X6_make 5 (am_wr [4, 1, 1, 1] [w1, w2, w3]) [] SH M (am_rv (am_rk 86) x) SH M') (h7 : ∀ M, c7 M = some (x, M') → am_R none 86 bk_X6_make 7 (am_wr [0, 0, 0, 0] []) [] SH M (am_rv (am_rk 86) x) SH M') (v1 v2 v3 : Int) (M : am_M) (h : XB_X6_make_1_5 c5 c7 v1 v2 v3 M = some (x, M')) : am_R none 86 bk_X6_make 5 (am_wr [4, 1, 1, 1] [v1, v2, v3]) [] SH M (am_rv (am_rk 86) x) SH M' :=
  vRegion (sc := none) (sh := SH) (F := F_X6_make_1) (k := 86) (bs := bk_X6_make) (r := (x, M')) (C := fun t lv st M => if t = 5 then vCt [4, 1, 1, 1] (un3 c5) lv st M else if t = 7 then vCt [0, 0, 0, 0] (un0 c7) lv st M else none) ok_X6_make fs_X6_make_1 (fun t lv st M h => by
    split at h
    · rename_i e; subst e; exact vCt_s (un3_s h5) h
    split at h
    · rename_i e; subst e; exact vCt_s (un0_s h7) h
    cases h) 10 5 (am_wr [4, 1, 1, 1] [v1, v2, v3]) [] M h
noncomputable def XB_X6_make_1_7 (M : am_M) : am_Rs :=
  some (0, M)
set_option maxRecDepth 100000 in
theorem rs_X6_make_1_7 {x : Int} {M' : am_M} (M : am_M) (h : XB_X6_make_1_7 M = some (x, M')) : am_R none 86 bk_X6_make 7 (am_wr [0, 0, 0, 0] []) [] SH M (am_rv (am_rk 86) x) SH M' :=
  vRegion (sc := none) (sh := SH) (F := F_X6_make_1) (k := 86) (bs := bk_X6_make) (r := (x, M')) (C := fun t lv st M => none) ok_X6_make fs_X6_make_1 (fun t lv st M h => by
    cases h) 10 7 (am_wr [0, 0, 0, 0] []) [] M h
noncomputable def XB_X6_make_1_e (c5 : Int → Int → Int → am_M → am_Rs) (v1 v2 : Int) (M : am_M) : am_Rs :=
  (X_X6_isNumber_1 v1 M).bind fun z1 =>
  if wI z1.1 = 0 then
   some (0, z1.2)
  else if wI v2 < 0 then
   some (0, z1.2)
  else if wI (z1.2 1 1) < wI v2 then
   some (0, z1.2)
  else if 0 ≤ wI v1 ∧ wI v1 < 6 then
  c5 v1 v2 0 (am_up z1.2 2 (wI v1).toNat v2)
  else none
set_option maxRecDepth 100000 in
theorem rs_X6_make_1_e {x : Int} {M' : am_M} {c5 : Int → Int → Int → am_M → am_Rs} (h5 : ∀ w1 w2 w3 M, c5 w1 w2 w3 M = some (x, M') → am_R none 86 bk_X6_make 5 (am_wr [4, 1, 1, 1] [w1, w2, w3]) [] SH M (am_rv (am_rk 86) x) SH M') (v1 v2 : Int) (M : am_M) (h : XB_X6_make_1_e c5 v1 v2 M = some (x, M')) : am_R none 86 bk_X6_make 0 (am_ent 4 [.inr (.inr (some 1)), .inl v1, .inl v2]) [] SH M (am_rv (am_rk 86) x) SH M' :=
  vRegion (sc := none) (sh := SH) (F := F_X6_make_1) (k := 86) (bs := bk_X6_make) (r := (x, M')) (C := fun t lv st M => if t = 5 then vCt [4, 1, 1, 1] (un3 c5) lv st M else none) ok_X6_make fs_X6_make_1 (fun t lv st M h => by
    split at h
    · rename_i e; subst e; exact vCt_s (un3_s h5) h
    cases h) 10 0 (am_ent 4 [.inr (.inr (some 1)), .inl v1, .inl v2]) [] M h
noncomputable def XL_X6_make_1_5 (k7 : am_M → am_Rs) : Nat → Int → Int → Int → am_M → am_Rs
  | 0, _, _, _, _ => none
  | n + 1, v1, v2, v3, M => XB_X6_make_1_5 (XL_X6_make_1_5 k7 n) k7 v1 v2 v3 M
theorem ls_X6_make_1_5 {x : Int} {M' : am_M} {k7 : am_M → am_Rs} (hk7 : ∀ M, k7 M = some (x, M') → am_R none 86 bk_X6_make 7 (am_wr [0, 0, 0, 0] []) [] SH M (am_rv (am_rk 86) x) SH M') : ∀ (n : Nat) (v1 v2 v3 : Int) (M : am_M), XL_X6_make_1_5 k7 n v1 v2 v3 M = some (x, M') → am_R none 86 bk_X6_make 5 (am_wr [4, 1, 1, 1] [v1, v2, v3]) [] SH M (am_rv (am_rk 86) x) SH M'
  | 0, v1, v2, v3, M, h => by cases h
  | n + 1, v1, v2, v3, M, h => rs_X6_make_1_5 (ls_X6_make_1_5 hk7 n) hk7 v1 v2 v3 M h
noncomputable def X_X6_make_1 (v1 v2 : Int) (M : am_M) : am_Rs := XB_X6_make_1_e (XL_X6_make_1_5 (XB_X6_make_1_7) 1000) v1 v2 M
theorem dc_X6_make_1 (v1 v2 : Int) (M M' : am_M) (x : Int) (h : X_X6_make_1 v1 v2 M = some (x, M')) : am_Calls 86 [.inr (.inr (some 1)), .inl v1, .inl v2] SH M (am_rv (am_rk 86) x) SH M' :=
  am_enter pn_X6_make ml_X6_make rfl (Nat.le_of_ble_eq_true rfl) ⟨Nat.le_refl _, Nat.le_refl _⟩ (rs_X6_make_1_e (ls_X6_make_1_5 (rs_X6_make_1_7) 1000) v1 v2 M h)
noncomputable def X_X8_find_0 (v1 : Int) (M : am_M) : am_Rs :=
  if wI v1 < 1 then
   some ((-3), M)
  else if 5 < wI v1 then
   some ((-3), M)
  else if 0 ≤ wI v1 ∧ wI v1 < 6 then
  if 0 ≤ wI v1 ∧ wI v1 < 6 then
   some ((-3), (am_up (am_up M 0 12 v1) 52 (wI v1).toNat (((am_up M 0 12 v1) 52 (wI v1).toNat) + 1)))
   else none
  else none
set_option maxRecDepth 100000 in
theorem dc_X8_find_0 (v1 : Int) (M M' : am_M) (x : Int) (h : X_X8_find_0 v1 M = some (x, M')) : am_Calls 154 [.inr (.inr (some 0)), .inl v1] SH M (am_rv (am_rk 154) x) SH M' :=
  vCall (F := F_none) (C := fun _ _ _ _ => none) (fu := 6) ok_X8_find pn_X8_find ml_X8_find rfl (Nat.le_of_ble_eq_true rfl) fs_none (fun _ _ _ _ h => by cases h) h
noncomputable def F_X8_row_0 : Nat → List am_V → am_M → am_Rs := fun k as M => if k = 81 then (match as with
  | [.inr (.inr (some 1)), .inl a1] => X_X6_isNumber_1 a1 M
  | _ => none) else if k = 86 then (match as with
  | [.inr (.inr (some 1)), .inl a1, .inl a2] => X_X6_make_1 a1 a2 M
  | _ => none) else if k = 154 then (match as with
  | [.inr (.inr (some 0)), .inl a1] => X_X8_find_0 a1 M
  | _ => none) else none
theorem fs_X8_row_0 : am_FS SH F_X8_row_0 := by
  intro k as M x M' h
  unfold F_X8_row_0 at h
  split at h
  · rename_i hk; subst hk
    split at h
    · exact dc_X6_isNumber_1 _ _ _ _ h
    · cases h
  split at h
  · rename_i hk; subst hk
    split at h
    · exact dc_X6_make_1 _ _ _ _ _ h
    · cases h
  split at h
  · rename_i hk; subst hk
    split at h
    · exact dc_X8_find_0 _ _ _ _ h
    · cases h
  cases h
noncomputable def X_X8_row_0 (v1 v2 : Int) (M : am_M) : am_Rs :=
  (X_X6_isNumber_1 v1 M).bind fun z1 =>
  if wI z1.1 = 0 then
   some ((-1), z1.2)
  else if 40 < wI v2 then
   some ((-1), z1.2)
  else if wI v2 < 0 then
   (X_X8_find_0 5 z1.2).bind fun z2 =>
   some (z2.1, z2.2)
  else (X_X6_make_1 v1 v2 z1.2).bind fun z2 =>
  some (v2, z2.2)
set_option maxRecDepth 100000 in
theorem dc_X8_row_0 (v1 v2 : Int) (M M' : am_M) (x : Int) (h : X_X8_row_0 v1 v2 M = some (x, M')) : am_Calls 106 [.inr (.inr (some 0)), .inl v1, .inl v2] SH M (am_rv (am_rk 106) x) SH M' :=
  vCall (F := F_X8_row_0) (C := fun _ _ _ _ => none) (fu := 8) ok_X8_row pn_X8_row ml_X8_row rfl (Nat.le_of_ble_eq_true rfl) fs_X8_row_0 (fun _ _ _ _ h => by cases h) h
noncomputable def X_X6_sizeOf_1 (v1 : Int) (M : am_M) : am_Rs :=
  if wI v1 < 0 then
   some ((-1), M)
  else if wI v1 < wI (M 1 0) then
   if 0 ≤ wI v1 ∧ wI v1 < 6 then
   some (M 2 (wI v1).toNat, M)
   else none
  else some ((-1), M)
set_option maxRecDepth 100000 in
theorem dc_X6_sizeOf_1 (v1 : Int) (M M' : am_M) (x : Int) (h : X_X6_sizeOf_1 v1 M = some (x, M')) : am_Calls 83 [.inr (.inr (some 1)), .inl v1] SH M (am_rv (am_rk 83) x) SH M' :=
  vCall (F := F_none) (C := fun _ _ _ _ => none) (fu := 7) ok_X6_sizeOf pn_X6_sizeOf ml_X6_sizeOf rfl (Nat.le_of_ble_eq_true rfl) fs_none (fun _ _ _ _ h => by cases h) h
noncomputable def F_X6_isThere_1 : Nat → List am_V → am_M → am_Rs := fun k as M => if k = 83 then (match as with
  | [.inr (.inr (some 1)), .inl a1] => X_X6_sizeOf_1 a1 M
  | _ => none) else none
theorem fs_X6_isThere_1 : am_FS SH F_X6_isThere_1 := by
  intro k as M x M' h
  unfold F_X6_isThere_1 at h
  split at h
  · rename_i hk; subst hk
    split at h
    · exact dc_X6_sizeOf_1 _ _ _ _ h
    · cases h
  cases h
noncomputable def X_X6_isThere_1 (v1 : Int) (M : am_M) : am_Rs :=
  (X_X6_sizeOf_1 v1 M).bind fun z1 =>
  if wI z1.1 = (-1) then
   some (0, z1.2)
  else some (1, z1.2)
set_option maxRecDepth 100000 in
theorem dc_X6_isThere_1 (v1 : Int) (M M' : am_M) (x : Int) (h : X_X6_isThere_1 v1 M = some (x, M')) : am_Calls 82 [.inr (.inr (some 1)), .inl v1] SH M (am_rv (am_rk 82) x) SH M' :=
  vCall (F := F_X6_isThere_1) (C := fun _ _ _ _ => none) (fu := 6) ok_X6_isThere pn_X6_isThere ml_X6_isThere rfl (Nat.le_of_ble_eq_true rfl) fs_X6_isThere_1 (fun _ _ _ _ h => by cases h) h
noncomputable def F_X6_hasPlace_1 : Nat → List am_V → am_M → am_Rs := fun k as M => if k = 83 then (match as with
  | [.inr (.inr (some 1)), .inl a1] => X_X6_sizeOf_1 a1 M
  | _ => none) else none
theorem fs_X6_hasPlace_1 : am_FS SH F_X6_hasPlace_1 := by
  intro k as M x M' h
  unfold F_X6_hasPlace_1 at h
  split at h
  · rename_i hk; subst hk
    split at h
    · exact dc_X6_sizeOf_1 _ _ _ _ h
    · cases h
  cases h
noncomputable def X_X6_hasPlace_1 (v1 v2 : Int) (M : am_M) : am_Rs :=
  if wI v2 < 0 then
   some (0, M)
  else (X_X6_sizeOf_1 v1 M).bind fun z1 =>
  if wI v2 < wI z1.1 then
   some (1, z1.2)
  else some (0, z1.2)
set_option maxRecDepth 100000 in
theorem dc_X6_hasPlace_1 (v1 v2 : Int) (M M' : am_M) (x : Int) (h : X_X6_hasPlace_1 v1 v2 M = some (x, M')) : am_Calls 84 [.inr (.inr (some 1)), .inl v1, .inl v2] SH M (am_rv (am_rk 84) x) SH M' :=
  vCall (F := F_X6_hasPlace_1) (C := fun _ _ _ _ => none) (fu := 7) ok_X6_hasPlace pn_X6_hasPlace ml_X6_hasPlace rfl (Nat.le_of_ble_eq_true rfl) fs_X6_hasPlace_1 (fun _ _ _ _ h => by cases h) h
noncomputable def F_X8_lackingPlace_1 : Nat → List am_V → am_M → am_Rs := fun k as M => if k = 82 then (match as with
  | [.inr (.inr (some 1)), .inl a1] => X_X6_isThere_1 a1 M
  | _ => none) else if k = 84 then (match as with
  | [.inr (.inr (some 1)), .inl a1, .inl a2] => X_X6_hasPlace_1 a1 a2 M
  | _ => none) else none
theorem fs_X8_lackingPlace_1 : am_FS SH F_X8_lackingPlace_1 := by
  intro k as M x M' h
  unfold F_X8_lackingPlace_1 at h
  split at h
  · rename_i hk; subst hk
    split at h
    · exact dc_X6_isThere_1 _ _ _ _ h
    · cases h
  split at h
  · rename_i hk; subst hk
    split at h
    · exact dc_X6_hasPlace_1 _ _ _ _ _ h
    · cases h
  cases h
noncomputable def X_X8_lackingPlace_1 (v1 v2 : Int) (M : am_M) : am_Rs :=
  (X_X6_isThere_1 v1 M).bind fun z1 =>
  if wI z1.1 = 0 then
   some (1, z1.2)
  else (X_X6_hasPlace_1 v1 v2 z1.2).bind fun z2 =>
  if wI z2.1 = 0 then
   some (2, z2.2)
  else some (0, z2.2)
set_option maxRecDepth 100000 in
theorem dc_X8_lackingPlace_1 (v1 v2 : Int) (M M' : am_M) (x : Int) (h : X_X8_lackingPlace_1 v1 v2 M = some (x, M')) : am_Calls 157 [.inr (.inr (some 1)), .inl v1, .inl v2] SH M (am_rv (am_rk 157) x) SH M' :=
  vCall (F := F_X8_lackingPlace_1) (C := fun _ _ _ _ => none) (fu := 8) ok_X8_lackingPlace pn_X8_lackingPlace ml_X8_lackingPlace rfl (Nat.le_of_ble_eq_true rfl) fs_X8_lackingPlace_1 (fun _ _ _ _ h => by cases h) h
noncomputable def F_X6_get_1 : Nat → List am_V → am_M → am_Rs := fun k as M => if k = 83 then (match as with
  | [.inr (.inr (some 1)), .inl a1] => X_X6_sizeOf_1 a1 M
  | _ => none) else none
theorem fs_X6_get_1 : am_FS SH F_X6_get_1 := by
  intro k as M x M' h
  unfold F_X6_get_1 at h
  split at h
  · rename_i hk; subst hk
    split at h
    · exact dc_X6_sizeOf_1 _ _ _ _ h
    · cases h
  cases h
noncomputable def X_X6_get_1 (v1 v2 : Int) (M : am_M) : am_Rs :=
  if wI v2 < 0 then
   some (0, M)
  else (X_X6_sizeOf_1 v1 M).bind fun z1 =>
  if wI v2 < wI z1.1 then
   if 0 ≤ wI ((v1 * (z1.2 1 1)) + v2) ∧ wI ((v1 * (z1.2 1 1)) + v2) < 240 then
   some (z1.2 3 (wI ((v1 * (z1.2 1 1)) + v2)).toNat, z1.2)
   else none
  else some (0, z1.2)
set_option maxRecDepth 100000 in
theorem dc_X6_get_1 (v1 v2 : Int) (M M' : am_M) (x : Int) (h : X_X6_get_1 v1 v2 M = some (x, M')) : am_Calls 88 [.inr (.inr (some 1)), .inl v1, .inl v2] SH M (am_rv (am_rk 88) x) SH M' :=
  vCall (F := F_X6_get_1) (C := fun _ _ _ _ => none) (fu := 7) ok_X6_get pn_X6_get ml_X6_get rfl (Nat.le_of_ble_eq_true rfl) fs_X6_get_1 (fun _ _ _ _ h => by cases h) h
noncomputable def F_X6_set_1 : Nat → List am_V → am_M → am_Rs := fun k as M => if k = 84 then (match as with
  | [.inr (.inr (some 1)), .inl a1, .inl a2] => X_X6_hasPlace_1 a1 a2 M
  | _ => none) else none
theorem fs_X6_set_1 : am_FS SH F_X6_set_1 := by
  intro k as M x M' h
  unfold F_X6_set_1 at h
  split at h
  · rename_i hk; subst hk
    split at h
    · exact dc_X6_hasPlace_1 _ _ _ _ _ h
    · cases h
  cases h
noncomputable def X_X6_set_1 (v1 v2 v3 : Int) (M : am_M) : am_Rs :=
  (X_X6_hasPlace_1 v1 v2 M).bind fun z1 =>
  if wI z1.1 = 0 then
   some (0, z1.2)
  else if 0 ≤ wI ((v1 * (z1.2 1 1)) + v2) ∧ wI ((v1 * (z1.2 1 1)) + v2) < 240 then
  some (0, (am_up z1.2 3 (wI ((v1 * (z1.2 1 1)) + v2)).toNat v3))
  else none
set_option maxRecDepth 100000 in
theorem dc_X6_set_1 (v1 v2 v3 : Int) (M M' : am_M) (x : Int) (h : X_X6_set_1 v1 v2 v3 M = some (x, M')) : am_Calls 89 [.inr (.inr (some 1)), .inl v1, .inl v2, .inl v3] SH M (am_rv (am_rk 89) x) SH M' :=
  vCall (F := F_X6_set_1) (C := fun _ _ _ _ => none) (fu := 5) ok_X6_set pn_X6_set ml_X6_set rfl (Nat.le_of_ble_eq_true rfl) fs_X6_set_1 (fun _ _ _ _ h => by cases h) h
noncomputable def X_X8_tell_0 (v1 : Int) (M : am_M) : am_Rs :=
  some (1, (am_up M 0 13 v1))
set_option maxRecDepth 100000 in
theorem dc_X8_tell_0 (v1 : Int) (M M' : am_M) (x : Int) (h : X_X8_tell_0 v1 M = some (x, M')) : am_Calls 155 [.inr (.inr (some 0)), .inl v1] SH M (am_rv (am_rk 155) x) SH M' :=
  vCall (F := F_none) (C := fun _ _ _ _ => none) (fu := 3) ok_X8_tell pn_X8_tell ml_X8_tell rfl (Nat.le_of_ble_eq_true rfl) fs_none (fun _ _ _ _ h => by cases h) h
noncomputable def F_X8_lay_0 : Nat → List am_V → am_M → am_Rs := fun k as M => if k = 81 then (match as with
  | [.inr (.inr (some 1)), .inl a1] => X_X6_isNumber_1 a1 M
  | _ => none) else if k = 88 then (match as with
  | [.inr (.inr (some 1)), .inl a1, .inl a2] => X_X6_get_1 a1 a2 M
  | _ => none) else if k = 89 then (match as with
  | [.inr (.inr (some 1)), .inl a1, .inl a2, .inl a3] => X_X6_set_1 a1 a2 a3 M
  | _ => none) else if k = 154 then (match as with
  | [.inr (.inr (some 0)), .inl a1] => X_X8_find_0 a1 M
  | _ => none) else if k = 155 then (match as with
  | [.inr (.inr (some 0)), .inl a1] => X_X8_tell_0 a1 M
  | _ => none) else if k = 157 then (match as with
  | [.inr (.inr (some 1)), .inl a1, .inl a2] => X_X8_lackingPlace_1 a1 a2 M
  | _ => none) else none
theorem fs_X8_lay_0 : am_FS SH F_X8_lay_0 := by
  intro k as M x M' h
  unfold F_X8_lay_0 at h
  split at h
  · rename_i hk; subst hk
    split at h
    · exact dc_X6_isNumber_1 _ _ _ _ h
    · cases h
  split at h
  · rename_i hk; subst hk
    split at h
    · exact dc_X6_get_1 _ _ _ _ _ h
    · cases h
  split at h
  · rename_i hk; subst hk
    split at h
    · exact dc_X6_set_1 _ _ _ _ _ _ h
    · cases h
  split at h
  · rename_i hk; subst hk
    split at h
    · exact dc_X8_find_0 _ _ _ _ h
    · cases h
  split at h
  · rename_i hk; subst hk
    split at h
    · exact dc_X8_tell_0 _ _ _ _ h
    · cases h
  split at h
  · rename_i hk; subst hk
    split at h
    · exact dc_X8_lackingPlace_1 _ _ _ _ _ h
    · cases h
  cases h
noncomputable def X_X8_lay_0 (v1 v2 v3 : Int) (M : am_M) : am_Rs :=
  (X_X6_isNumber_1 v1 M).bind fun z1 =>
  if wI z1.1 = 0 then
   some ((-1), z1.2)
  else (X_X8_lackingPlace_1 v1 v2 z1.2).bind fun z2 =>
  if wI z2.1 = 0 then
   (X_X6_get_1 v1 v2 z2.2).bind fun z3 =>
   (X_X6_set_1 v1 v2 v3 z3.2).bind fun z4 =>
   (X_X8_tell_0 z3.1 z4.2).bind fun z5 =>
   some (z5.1, z5.2)
  else (X_X8_find_0 z2.1 z2.2).bind fun z3 =>
  some (z3.1, z3.2)
set_option maxRecDepth 100000 in
theorem dc_X8_lay_0 (v1 v2 v3 : Int) (M M' : am_M) (x : Int) (h : X_X8_lay_0 v1 v2 v3 M = some (x, M')) : am_Calls 107 [.inr (.inr (some 0)), .inl v1, .inl v2, .inl v3] SH M (am_rv (am_rk 107) x) SH M' :=
  vCall (F := F_X8_lay_0) (C := fun _ _ _ _ => none) (fu := 7) ok_X8_lay pn_X8_lay ml_X8_lay rfl (Nat.le_of_ble_eq_true rfl) fs_X8_lay_0 (fun _ _ _ _ h => by cases h) h
noncomputable def F_X8_at_0 : Nat → List am_V → am_M → am_Rs := fun k as M => if k = 81 then (match as with
  | [.inr (.inr (some 1)), .inl a1] => X_X6_isNumber_1 a1 M
  | _ => none) else if k = 88 then (match as with
  | [.inr (.inr (some 1)), .inl a1, .inl a2] => X_X6_get_1 a1 a2 M
  | _ => none) else if k = 154 then (match as with
  | [.inr (.inr (some 0)), .inl a1] => X_X8_find_0 a1 M
  | _ => none) else if k = 155 then (match as with
  | [.inr (.inr (some 0)), .inl a1] => X_X8_tell_0 a1 M
  | _ => none) else if k = 157 then (match as with
  | [.inr (.inr (some 1)), .inl a1, .inl a2] => X_X8_lackingPlace_1 a1 a2 M
  | _ => none) else none
theorem fs_X8_at_0 : am_FS SH F_X8_at_0 := by
  intro k as M x M' h
  unfold F_X8_at_0 at h
  split at h
  · rename_i hk; subst hk
    split at h
    · exact dc_X6_isNumber_1 _ _ _ _ h
    · cases h
  split at h
  · rename_i hk; subst hk
    split at h
    · exact dc_X6_get_1 _ _ _ _ _ h
    · cases h
  split at h
  · rename_i hk; subst hk
    split at h
    · exact dc_X8_find_0 _ _ _ _ h
    · cases h
  split at h
  · rename_i hk; subst hk
    split at h
    · exact dc_X8_tell_0 _ _ _ _ h
    · cases h
  split at h
  · rename_i hk; subst hk
    split at h
    · exact dc_X8_lackingPlace_1 _ _ _ _ _ h
    · cases h
  cases h
noncomputable def X_X8_at_0 (v1 v2 : Int) (M : am_M) : am_Rs :=
  (X_X6_isNumber_1 v1 M).bind fun z1 =>
  if wI z1.1 = 0 then
   some ((-1), z1.2)
  else (X_X8_lackingPlace_1 v1 v2 z1.2).bind fun z2 =>
  if wI z2.1 = 0 then
   (X_X6_get_1 v1 v2 z2.2).bind fun z3 =>
   (X_X8_tell_0 z3.1 z3.2).bind fun z4 =>
   some (z4.1, z4.2)
  else (X_X8_find_0 z2.1 z2.2).bind fun z3 =>
  some (z3.1, z3.2)
set_option maxRecDepth 100000 in
theorem dc_X8_at_0 (v1 v2 : Int) (M M' : am_M) (x : Int) (h : X_X8_at_0 v1 v2 M = some (x, M')) : am_Calls 108 [.inr (.inr (some 0)), .inl v1, .inl v2] SH M (am_rv (am_rk 108) x) SH M' :=
  vCall (F := F_X8_at_0) (C := fun _ _ _ _ => none) (fu := 7) ok_X8_at pn_X8_at ml_X8_at rfl (Nat.le_of_ble_eq_true rfl) fs_X8_at_0 (fun _ _ _ _ h => by cases h) h
noncomputable def F_X6_remove_1 : Nat → List am_V → am_M → am_Rs := fun k as M => if k = 81 then (match as with
  | [.inr (.inr (some 1)), .inl a1] => X_X6_isNumber_1 a1 M
  | _ => none) else none
theorem fs_X6_remove_1 : am_FS SH F_X6_remove_1 := by
  intro k as M x M' h
  unfold F_X6_remove_1 at h
  split at h
  · rename_i hk; subst hk
    split at h
    · exact dc_X6_isNumber_1 _ _ _ _ h
    · cases h
  cases h
noncomputable def X_X6_remove_1 (v1 : Int) (M : am_M) : am_Rs :=
  (X_X6_isNumber_1 v1 M).bind fun z1 =>
  if wI z1.1 = 0 then
   some (0, z1.2)
  else if 0 ≤ wI v1 ∧ wI v1 < 6 then
  some (0, (am_up z1.2 2 (wI v1).toNat (-1)))
  else none
set_option maxRecDepth 100000 in
theorem dc_X6_remove_1 (v1 : Int) (M M' : am_M) (x : Int) (h : X_X6_remove_1 v1 M = some (x, M')) : am_Calls 87 [.inr (.inr (some 1)), .inl v1] SH M (am_rv (am_rk 87) x) SH M' :=
  vCall (F := F_X6_remove_1) (C := fun _ _ _ _ => none) (fu := 5) ok_X6_remove pn_X6_remove ml_X6_remove rfl (Nat.le_of_ble_eq_true rfl) fs_X6_remove_1 (fun _ _ _ _ h => by cases h) h
noncomputable def F_X8_tear_0 : Nat → List am_V → am_M → am_Rs := fun k as M => if k = 81 then (match as with
  | [.inr (.inr (some 1)), .inl a1] => X_X6_isNumber_1 a1 M
  | _ => none) else if k = 82 then (match as with
  | [.inr (.inr (some 1)), .inl a1] => X_X6_isThere_1 a1 M
  | _ => none) else if k = 87 then (match as with
  | [.inr (.inr (some 1)), .inl a1] => X_X6_remove_1 a1 M
  | _ => none) else if k = 154 then (match as with
  | [.inr (.inr (some 0)), .inl a1] => X_X8_find_0 a1 M
  | _ => none) else none
theorem fs_X8_tear_0 : am_FS SH F_X8_tear_0 := by
  intro k as M x M' h
  unfold F_X8_tear_0 at h
  split at h
  · rename_i hk; subst hk
    split at h
    · exact dc_X6_isNumber_1 _ _ _ _ h
    · cases h
  split at h
  · rename_i hk; subst hk
    split at h
    · exact dc_X6_isThere_1 _ _ _ _ h
    · cases h
  split at h
  · rename_i hk; subst hk
    split at h
    · exact dc_X6_remove_1 _ _ _ _ h
    · cases h
  split at h
  · rename_i hk; subst hk
    split at h
    · exact dc_X8_find_0 _ _ _ _ h
    · cases h
  cases h
noncomputable def X_X8_tear_0 (v1 : Int) (M : am_M) : am_Rs :=
  (X_X6_isNumber_1 v1 M).bind fun z1 =>
  if wI z1.1 = 0 then
   some ((-1), z1.2)
  else (X_X6_isThere_1 v1 z1.2).bind fun z2 =>
  if wI z2.1 = 0 then
   (X_X8_find_0 1 z2.2).bind fun z3 =>
   some (z3.1, z3.2)
  else (X_X6_remove_1 v1 z2.2).bind fun z3 =>
  some (1, z3.2)
set_option maxRecDepth 100000 in
theorem dc_X8_tear_0 (v1 : Int) (M M' : am_M) (x : Int) (h : X_X8_tear_0 v1 M = some (x, M')) : am_Calls 109 [.inr (.inr (some 0)), .inl v1] SH M (am_rv (am_rk 109) x) SH M' :=
  vCall (F := F_X8_tear_0) (C := fun _ _ _ _ => none) (fu := 7) ok_X8_tear pn_X8_tear ml_X8_tear rfl (Nat.le_of_ble_eq_true rfl) fs_X8_tear_0 (fun _ _ _ _ h => by cases h) h
noncomputable def F_X6_holds_1 : Nat → List am_V → am_M → am_Rs := fun k as M => if k = 83 then (match as with
  | [.inr (.inr (some 1)), .inl a1] => X_X6_sizeOf_1 a1 M
  | _ => none) else none
theorem fs_X6_holds_1 : am_FS SH F_X6_holds_1 := by
  intro k as M x M' h
  unfold F_X6_holds_1 at h
  split at h
  · rename_i hk; subst hk
    split at h
    · exact dc_X6_sizeOf_1 _ _ _ _ h
    · cases h
  cases h
noncomputable def X_X6_holds_1 (v1 v2 v3 : Int) (M : am_M) : am_Rs :=
  if wI v2 < 0 then
   some (0, M)
  else if wI v3 < 0 then
   some (0, M)
  else (X_X6_sizeOf_1 v1 M).bind fun z1 =>
  if wI (z1.1 - v2) < wI v3 then
   some (0, z1.2)
  else some (1, z1.2)
set_option maxRecDepth 100000 in
theorem dc_X6_holds_1 (v1 v2 v3 : Int) (M M' : am_M) (x : Int) (h : X_X6_holds_1 v1 v2 v3 M = some (x, M')) : am_Calls 85 [.inr (.inr (some 1)), .inl v1, .inl v2, .inl v3] SH M (am_rv (am_rk 85) x) SH M' :=
  vCall (F := F_X6_holds_1) (C := fun _ _ _ _ => none) (fu := 8) ok_X6_holds pn_X6_holds ml_X6_holds rfl (Nat.le_of_ble_eq_true rfl) fs_X6_holds_1 (fun _ _ _ _ h => by cases h) h
noncomputable def F_X6_bring_1 : Nat → List am_V → am_M → am_Rs := fun k as M => if k = 85 then (match as with
  | [.inr (.inr (some 1)), .inl a1, .inl a2, .inl a3] => X_X6_holds_1 a1 a2 a3 M
  | _ => none) else none
theorem fs_X6_bring_1 : am_FS SH F_X6_bring_1 := by
  intro k as M x M' h
  unfold F_X6_bring_1 at h
  split at h
  · rename_i hk; subst hk
    split at h
    · exact dc_X6_holds_1 _ _ _ _ _ _ h
    · cases h
  cases h
noncomputable def X_X6_bring_1 (v1 v2 v3 v4 v5 : Int) (M : am_M) : am_Rs :=
  (X_X6_holds_1 v1 v2 v5 M).bind fun z1 =>
  if wI z1.1 = 0 then
   some (0, z1.2)
  else (X_X6_holds_1 v3 v4 v5 z1.2).bind fun z2 =>
  if wI z2.1 = 0 then
   some (0, z2.2)
  else if 0 ≤ wI ((v1 * (z2.2 1 1)) + v2) ∧ 0 ≤ wI ((v3 * (z2.2 1 1)) + v4) ∧ 0 ≤ wI v5 ∧ wI ((v1 * (z2.2 1 1)) + v2) + wI v5 ≤ 240 ∧ wI ((v3 * (z2.2 1 1)) + v4) + wI v5 ≤ 240 then
  some (0, (am_cpy z2.2 3 3 (wI ((v1 * (z2.2 1 1)) + v2)).toNat (wI ((v3 * (z2.2 1 1)) + v4)).toNat (wI v5).toNat))
  else none
set_option maxRecDepth 100000 in
theorem dc_X6_bring_1 (v1 v2 v3 v4 v5 : Int) (M M' : am_M) (x : Int) (h : X_X6_bring_1 v1 v2 v3 v4 v5 M = some (x, M')) : am_Calls 90 [.inr (.inr (some 1)), .inl v1, .inl v2, .inl v3, .inl v4, .inl v5] SH M (am_rv (am_rk 90) x) SH M' :=
  vCall (F := F_X6_bring_1) (C := fun _ _ _ _ => none) (fu := 6) ok_X6_bring pn_X6_bring ml_X6_bring rfl (Nat.le_of_ble_eq_true rfl) fs_X6_bring_1 (fun _ _ _ _ h => by cases h) h
noncomputable def F_X8_copy_0 : Nat → List am_V → am_M → am_Rs := fun k as M => if k = 81 then (match as with
  | [.inr (.inr (some 1)), .inl a1] => X_X6_isNumber_1 a1 M
  | _ => none) else if k = 82 then (match as with
  | [.inr (.inr (some 1)), .inl a1] => X_X6_isThere_1 a1 M
  | _ => none) else if k = 85 then (match as with
  | [.inr (.inr (some 1)), .inl a1, .inl a2, .inl a3] => X_X6_holds_1 a1 a2 a3 M
  | _ => none) else if k = 90 then (match as with
  | [.inr (.inr (some 1)), .inl a1, .inl a2, .inl a3, .inl a4, .inl a5] => X_X6_bring_1 a1 a2 a3 a4 a5 M
  | _ => none) else if k = 154 then (match as with
  | [.inr (.inr (some 0)), .inl a1] => X_X8_find_0 a1 M
  | _ => none) else none
theorem fs_X8_copy_0 : am_FS SH F_X8_copy_0 := by
  intro k as M x M' h
  unfold F_X8_copy_0 at h
  split at h
  · rename_i hk; subst hk
    split at h
    · exact dc_X6_isNumber_1 _ _ _ _ h
    · cases h
  split at h
  · rename_i hk; subst hk
    split at h
    · exact dc_X6_isThere_1 _ _ _ _ h
    · cases h
  split at h
  · rename_i hk; subst hk
    split at h
    · exact dc_X6_holds_1 _ _ _ _ _ _ h
    · cases h
  split at h
  · rename_i hk; subst hk
    split at h
    · exact dc_X6_bring_1 _ _ _ _ _ _ _ _ h
    · cases h
  split at h
  · rename_i hk; subst hk
    split at h
    · exact dc_X8_find_0 _ _ _ _ h
    · cases h
  cases h
noncomputable def X_X8_copy_0 (v1 v2 v3 v4 v5 : Int) (M : am_M) : am_Rs :=
  (X_X6_isNumber_1 v1 M).bind fun z1 =>
  if wI z1.1 = 0 then
   some ((-1), z1.2)
  else (X_X6_isNumber_1 v3 z1.2).bind fun z2 =>
  if wI z2.1 = 0 then
   some ((-1), z2.2)
  else if wI v5 < 0 then
   (X_X8_find_0 5 z2.2).bind fun z3 =>
   some (z3.1, z3.2)
  else (X_X6_isThere_1 v1 z2.2).bind fun z3 =>
  if wI z3.1 = 0 then
   (X_X8_find_0 1 z3.2).bind fun z4 =>
   some (z4.1, z4.2)
  else (X_X6_isThere_1 v3 z3.2).bind fun z4 =>
  if wI z4.1 = 0 then
   (X_X8_find_0 1 z4.2).bind fun z5 =>
   some (z5.1, z5.2)
  else (X_X6_holds_1 v1 v2 v5 z4.2).bind fun z5 =>
  if wI z5.1 = 0 then
   (X_X8_find_0 2 z5.2).bind fun z6 =>
   some (z6.1, z6.2)
  else (X_X6_holds_1 v3 v4 v5 z5.2).bind fun z6 =>
  if wI z6.1 = 0 then
   (X_X8_find_0 2 z6.2).bind fun z7 =>
   some (z7.1, z7.2)
  else (X_X6_bring_1 v1 v2 v3 v4 v5 z6.2).bind fun z7 =>
  some (1, z7.2)
set_option maxRecDepth 100000 in
theorem dc_X8_copy_0 (v1 v2 v3 v4 v5 : Int) (M M' : am_M) (x : Int) (h : X_X8_copy_0 v1 v2 v3 v4 v5 M = some (x, M')) : am_Calls 110 [.inr (.inr (some 0)), .inl v1, .inl v2, .inl v3, .inl v4, .inl v5] SH M (am_rv (am_rk 110) x) SH M' :=
  vCall (F := F_X8_copy_0) (C := fun _ _ _ _ => none) (fu := 14) ok_X8_copy pn_X8_copy ml_X8_copy rfl (Nat.le_of_ble_eq_true rfl) fs_X8_copy_0 (fun _ _ _ _ h => by cases h) h
noncomputable def F_X6_sum_1 : Nat → List am_V → am_M → am_Rs := fun k as M => if k = 83 then (match as with
  | [.inr (.inr (some 1)), .inl a1] => X_X6_sizeOf_1 a1 M
  | _ => none) else if k = 88 then (match as with
  | [.inr (.inr (some 1)), .inl a1, .inl a2] => X_X6_get_1 a1 a2 M
  | _ => none) else none
theorem fs_X6_sum_1 : am_FS SH F_X6_sum_1 := by
  intro k as M x M' h
  unfold F_X6_sum_1 at h
  split at h
  · rename_i hk; subst hk
    split at h
    · exact dc_X6_sizeOf_1 _ _ _ _ h
    · cases h
  split at h
  · rename_i hk; subst hk
    split at h
    · exact dc_X6_get_1 _ _ _ _ _ h
    · cases h
  cases h
noncomputable def XB_X6_sum_1_1 (c1 : Int → Int → Int → am_M → am_Rs) (c3 : Int → am_M → am_Rs) (v1 v2 v4 : Int) (M : am_M) : am_Rs :=
  (X_X6_sizeOf_1 v1 M).bind fun z1 =>
  if wI v4 < wI z1.1 then
   (X_X6_get_1 v1 v4 z1.2).bind fun z2 =>
   c1 v1 (v2 + (wI z2.1)) (v4 + 1) z2.2
  else c3 v2 z1.2
set_option maxRecDepth 100000 in
theorem rs_X6_sum_1_1 {x : Int} {M' : am_M} {c1 : Int → Int → Int → am_M → am_Rs} {c3 : Int → am_M → am_Rs} (h1 : ∀ w1 w2 w4 M, c1 w1 w2 w4 M = some (x, M') → am_R none 91 bk_X6_sum 1 (am_wr [4, 1, 2, 0, 1] [w1, w2, w4]) [] SH M (am_rv (am_rk 91) x) SH M') (h3 : ∀ w2 M, c3 w2 M = some (x, M') → am_R none 91 bk_X6_sum 3 (am_wr [0, 0, 2, 0, 0] [w2]) [] SH M (am_rv (am_rk 91) x) SH M') (v1 v2 v4 : Int) (M : am_M) (h : XB_X6_sum_1_1 c1 c3 v1 v2 v4 M = some (x, M')) : am_R none 91 bk_X6_sum 1 (am_wr [4, 1, 2, 0, 1] [v1, v2, v4]) [] SH M (am_rv (am_rk 91) x) SH M' :=
  vRegion (sc := none) (sh := SH) (F := F_X6_sum_1) (k := 91) (bs := bk_X6_sum) (r := (x, M')) (C := fun t lv st M => if t = 1 then vCt [4, 1, 2, 0, 1] (un3 c1) lv st M else if t = 3 then vCt [0, 0, 2, 0, 0] (un1 c3) lv st M else none) ok_X6_sum fs_X6_sum_1 (fun t lv st M h => by
    split at h
    · rename_i e; subst e; exact vCt_s (un3_s h1) h
    split at h
    · rename_i e; subst e; exact vCt_s (un1_s h3) h
    cases h) 6 1 (am_wr [4, 1, 2, 0, 1] [v1, v2, v4]) [] M h
noncomputable def XB_X6_sum_1_3 (v2 : Int) (M : am_M) : am_Rs :=
  some (v2, M)
set_option maxRecDepth 100000 in
theorem rs_X6_sum_1_3 {x : Int} {M' : am_M} (v2 : Int) (M : am_M) (h : XB_X6_sum_1_3 v2 M = some (x, M')) : am_R none 91 bk_X6_sum 3 (am_wr [0, 0, 2, 0, 0] [v2]) [] SH M (am_rv (am_rk 91) x) SH M' :=
  vRegion (sc := none) (sh := SH) (F := F_X6_sum_1) (k := 91) (bs := bk_X6_sum) (r := (x, M')) (C := fun t lv st M => none) ok_X6_sum fs_X6_sum_1 (fun t lv st M h => by
    cases h) 6 3 (am_wr [0, 0, 2, 0, 0] [v2]) [] M h
noncomputable def XB_X6_sum_1_e (c1 : Int → Int → Int → am_M → am_Rs) (v1 : Int) (M : am_M) : am_Rs :=
  c1 v1 0 0 M
set_option maxRecDepth 100000 in
theorem rs_X6_sum_1_e {x : Int} {M' : am_M} {c1 : Int → Int → Int → am_M → am_Rs} (h1 : ∀ w1 w2 w4 M, c1 w1 w2 w4 M = some (x, M') → am_R none 91 bk_X6_sum 1 (am_wr [4, 1, 2, 0, 1] [w1, w2, w4]) [] SH M (am_rv (am_rk 91) x) SH M') (v1 : Int) (M : am_M) (h : XB_X6_sum_1_e c1 v1 M = some (x, M')) : am_R none 91 bk_X6_sum 0 (am_ent 5 [.inr (.inr (some 1)), .inl v1]) [] SH M (am_rv (am_rk 91) x) SH M' :=
  vRegion (sc := none) (sh := SH) (F := F_X6_sum_1) (k := 91) (bs := bk_X6_sum) (r := (x, M')) (C := fun t lv st M => if t = 1 then vCt [4, 1, 2, 0, 1] (un3 c1) lv st M else none) ok_X6_sum fs_X6_sum_1 (fun t lv st M h => by
    split at h
    · rename_i e; subst e; exact vCt_s (un3_s h1) h
    cases h) 6 0 (am_ent 5 [.inr (.inr (some 1)), .inl v1]) [] M h
noncomputable def XL_X6_sum_1_1 (k3 : Int → am_M → am_Rs) : Nat → Int → Int → Int → am_M → am_Rs
  | 0, _, _, _, _ => none
  | n + 1, v1, v2, v4, M => XB_X6_sum_1_1 (XL_X6_sum_1_1 k3 n) k3 v1 v2 v4 M
theorem ls_X6_sum_1_1 {x : Int} {M' : am_M} {k3 : Int → am_M → am_Rs} (hk3 : ∀ w2 M, k3 w2 M = some (x, M') → am_R none 91 bk_X6_sum 3 (am_wr [0, 0, 2, 0, 0] [w2]) [] SH M (am_rv (am_rk 91) x) SH M') : ∀ (n : Nat) (v1 v2 v4 : Int) (M : am_M), XL_X6_sum_1_1 k3 n v1 v2 v4 M = some (x, M') → am_R none 91 bk_X6_sum 1 (am_wr [4, 1, 2, 0, 1] [v1, v2, v4]) [] SH M (am_rv (am_rk 91) x) SH M'
  | 0, v1, v2, v4, M, h => by cases h
  | n + 1, v1, v2, v4, M, h => rs_X6_sum_1_1 (ls_X6_sum_1_1 hk3 n) hk3 v1 v2 v4 M h
noncomputable def X_X6_sum_1 (v1 : Int) (M : am_M) : am_Rs := XB_X6_sum_1_e (XL_X6_sum_1_1 (XB_X6_sum_1_3) 1000) v1 M
theorem dc_X6_sum_1 (v1 : Int) (M M' : am_M) (x : Int) (h : X_X6_sum_1 v1 M = some (x, M')) : am_Calls 91 [.inr (.inr (some 1)), .inl v1] SH M (am_rv (am_rk 91) x) SH M' :=
  am_enter pn_X6_sum ml_X6_sum rfl (Nat.le_of_ble_eq_true rfl) ⟨Nat.le_refl _, Nat.le_refl _⟩ (rs_X6_sum_1_e (ls_X6_sum_1_1 (rs_X6_sum_1_3) 1000) v1 M h)
noncomputable def F_X8_mean_0 : Nat → List am_V → am_M → am_Rs := fun k as M => if k = 81 then (match as with
  | [.inr (.inr (some 1)), .inl a1] => X_X6_isNumber_1 a1 M
  | _ => none) else if k = 82 then (match as with
  | [.inr (.inr (some 1)), .inl a1] => X_X6_isThere_1 a1 M
  | _ => none) else if k = 83 then (match as with
  | [.inr (.inr (some 1)), .inl a1] => X_X6_sizeOf_1 a1 M
  | _ => none) else if k = 91 then (match as with
  | [.inr (.inr (some 1)), .inl a1] => X_X6_sum_1 a1 M
  | _ => none) else if k = 154 then (match as with
  | [.inr (.inr (some 0)), .inl a1] => X_X8_find_0 a1 M
  | _ => none) else if k = 155 then (match as with
  | [.inr (.inr (some 0)), .inl a1] => X_X8_tell_0 a1 M
  | _ => none) else none
theorem fs_X8_mean_0 : am_FS SH F_X8_mean_0 := by
  intro k as M x M' h
  unfold F_X8_mean_0 at h
  split at h
  · rename_i hk; subst hk
    split at h
    · exact dc_X6_isNumber_1 _ _ _ _ h
    · cases h
  split at h
  · rename_i hk; subst hk
    split at h
    · exact dc_X6_isThere_1 _ _ _ _ h
    · cases h
  split at h
  · rename_i hk; subst hk
    split at h
    · exact dc_X6_sizeOf_1 _ _ _ _ h
    · cases h
  split at h
  · rename_i hk; subst hk
    split at h
    · exact dc_X6_sum_1 _ _ _ _ h
    · cases h
  split at h
  · rename_i hk; subst hk
    split at h
    · exact dc_X8_find_0 _ _ _ _ h
    · cases h
  split at h
  · rename_i hk; subst hk
    split at h
    · exact dc_X8_tell_0 _ _ _ _ h
    · cases h
  cases h
noncomputable def X_X8_mean_0 (v1 : Int) (M : am_M) : am_Rs :=
  (X_X6_isNumber_1 v1 M).bind fun z1 =>
  if wI z1.1 = 0 then
   some ((-1), z1.2)
  else (X_X6_isThere_1 v1 z1.2).bind fun z2 =>
  if wI z2.1 = 0 then
   (X_X8_find_0 1 z2.2).bind fun z3 =>
   some (z3.1, z3.2)
  else (X_X6_sizeOf_1 v1 z2.2).bind fun z3 =>
  if wI z3.1 < 1 then
   (X_X8_find_0 4 z3.2).bind fun z4 =>
   some (z4.1, z4.2)
  else (X_X6_sum_1 v1 z3.2).bind fun z4 =>
  if wL (wI z3.1) ≠ 0 then
  (X_X8_tell_0 ((wL z4.1).tdiv (wL (wI z3.1))) z4.2).bind fun z5 =>
   some (z5.1, z5.2)
  else none
set_option maxRecDepth 100000 in
theorem dc_X8_mean_0 (v1 : Int) (M M' : am_M) (x : Int) (h : X_X8_mean_0 v1 M = some (x, M')) : am_Calls 111 [.inr (.inr (some 0)), .inl v1] SH M (am_rv (am_rk 111) x) SH M' :=
  vCall (F := F_X8_mean_0) (C := fun _ _ _ _ => none) (fu := 9) ok_X8_mean pn_X8_mean ml_X8_mean rfl (Nat.le_of_ble_eq_true rfl) fs_X8_mean_0 (fun _ _ _ _ h => by cases h) h
noncomputable def X_X6_isNumber_4 (v1 : Int) (M : am_M) : am_Rs :=
  if wI v1 < 0 then
   some (0, M)
  else if wI v1 < wI (M 4 0) then
   some (1, M)
  else some (0, M)
set_option maxRecDepth 100000 in
theorem dc_X6_isNumber_4 (v1 : Int) (M M' : am_M) (x : Int) (h : X_X6_isNumber_4 v1 M = some (x, M')) : am_Calls 81 [.inr (.inr (some 4)), .inl v1] SH M (am_rv (am_rk 81) x) SH M' :=
  vCall (F := F_none) (C := fun _ _ _ _ => none) (fu := 7) ok_X6_isNumber pn_X6_isNumber ml_X6_isNumber rfl (Nat.le_of_ble_eq_true rfl) fs_none (fun _ _ _ _ h => by cases h) h
noncomputable def F_X6_make_4 : Nat → List am_V → am_M → am_Rs := fun k as M => if k = 81 then (match as with
  | [.inr (.inr (some 4)), .inl a1] => X_X6_isNumber_4 a1 M
  | _ => none) else none
theorem fs_X6_make_4 : am_FS SH F_X6_make_4 := by
  intro k as M x M' h
  unfold F_X6_make_4 at h
  split at h
  · rename_i hk; subst hk
    split at h
    · exact dc_X6_isNumber_4 _ _ _ _ h
    · cases h
  cases h
noncomputable def XB_X6_make_4_5 (c5 : Int → Int → Int → am_M → am_Rs) (c7 : am_M → am_Rs) (v1 v2 v3 : Int) (M : am_M) : am_Rs :=
  if wI v3 < wI v2 then
   if 0 ≤ wI ((v1 * (M 4 1)) + v3) ∧ wI ((v1 * (M 4 1)) + v3) < 240 then
   c5 v1 v2 (v3 + 1) (am_up M 6 (wI ((v1 * (M 4 1)) + v3)).toNat (M 4 2))
   else none
  else c7 M
set_option maxRecDepth 100000 in
theorem rs_X6_make_4_5 {x : Int} {M' : am_M} {c5 : Int → Int → Int → am_M → am_Rs} {c7 : am_M → am_Rs} (h5 : ∀ w1 w2 w3 M, c5 w1 w2 w3 M = some (x, M') → am_R none 86 bk_X6_make 5 (am_wr [7, 1, 1, 1] [w1, w2, w3]) [] SH M (am_rv (am_rk 86) x) SH M') (h7 : ∀ M, c7 M = some (x, M') → am_R none 86 bk_X6_make 7 (am_wr [0, 0, 0, 0] []) [] SH M (am_rv (am_rk 86) x) SH M') (v1 v2 v3 : Int) (M : am_M) (h : XB_X6_make_4_5 c5 c7 v1 v2 v3 M = some (x, M')) : am_R none 86 bk_X6_make 5 (am_wr [7, 1, 1, 1] [v1, v2, v3]) [] SH M (am_rv (am_rk 86) x) SH M' :=
  vRegion (sc := none) (sh := SH) (F := F_X6_make_4) (k := 86) (bs := bk_X6_make) (r := (x, M')) (C := fun t lv st M => if t = 5 then vCt [7, 1, 1, 1] (un3 c5) lv st M else if t = 7 then vCt [0, 0, 0, 0] (un0 c7) lv st M else none) ok_X6_make fs_X6_make_4 (fun t lv st M h => by
    split at h
    · rename_i e; subst e; exact vCt_s (un3_s h5) h
    split at h
    · rename_i e; subst e; exact vCt_s (un0_s h7) h
    cases h) 10 5 (am_wr [7, 1, 1, 1] [v1, v2, v3]) [] M h
noncomputable def XB_X6_make_4_7 (M : am_M) : am_Rs :=
  some (0, M)
set_option maxRecDepth 100000 in
theorem rs_X6_make_4_7 {x : Int} {M' : am_M} (M : am_M) (h : XB_X6_make_4_7 M = some (x, M')) : am_R none 86 bk_X6_make 7 (am_wr [0, 0, 0, 0] []) [] SH M (am_rv (am_rk 86) x) SH M' :=
  vRegion (sc := none) (sh := SH) (F := F_X6_make_4) (k := 86) (bs := bk_X6_make) (r := (x, M')) (C := fun t lv st M => none) ok_X6_make fs_X6_make_4 (fun t lv st M h => by
    cases h) 10 7 (am_wr [0, 0, 0, 0] []) [] M h
noncomputable def XB_X6_make_4_e (c5 : Int → Int → Int → am_M → am_Rs) (v1 v2 : Int) (M : am_M) : am_Rs :=
  (X_X6_isNumber_4 v1 M).bind fun z1 =>
  if wI z1.1 = 0 then
   some (0, z1.2)
  else if wI v2 < 0 then
   some (0, z1.2)
  else if wI (z1.2 4 1) < wI v2 then
   some (0, z1.2)
  else if 0 ≤ wI v1 ∧ wI v1 < 4 then
  c5 v1 v2 0 (am_up z1.2 5 (wI v1).toNat v2)
  else none
set_option maxRecDepth 100000 in
theorem rs_X6_make_4_e {x : Int} {M' : am_M} {c5 : Int → Int → Int → am_M → am_Rs} (h5 : ∀ w1 w2 w3 M, c5 w1 w2 w3 M = some (x, M') → am_R none 86 bk_X6_make 5 (am_wr [7, 1, 1, 1] [w1, w2, w3]) [] SH M (am_rv (am_rk 86) x) SH M') (v1 v2 : Int) (M : am_M) (h : XB_X6_make_4_e c5 v1 v2 M = some (x, M')) : am_R none 86 bk_X6_make 0 (am_ent 4 [.inr (.inr (some 4)), .inl v1, .inl v2]) [] SH M (am_rv (am_rk 86) x) SH M' :=
  vRegion (sc := none) (sh := SH) (F := F_X6_make_4) (k := 86) (bs := bk_X6_make) (r := (x, M')) (C := fun t lv st M => if t = 5 then vCt [7, 1, 1, 1] (un3 c5) lv st M else none) ok_X6_make fs_X6_make_4 (fun t lv st M h => by
    split at h
    · rename_i e; subst e; exact vCt_s (un3_s h5) h
    cases h) 10 0 (am_ent 4 [.inr (.inr (some 4)), .inl v1, .inl v2]) [] M h
noncomputable def XL_X6_make_4_5 (k7 : am_M → am_Rs) : Nat → Int → Int → Int → am_M → am_Rs
  | 0, _, _, _, _ => none
  | n + 1, v1, v2, v3, M => XB_X6_make_4_5 (XL_X6_make_4_5 k7 n) k7 v1 v2 v3 M
theorem ls_X6_make_4_5 {x : Int} {M' : am_M} {k7 : am_M → am_Rs} (hk7 : ∀ M, k7 M = some (x, M') → am_R none 86 bk_X6_make 7 (am_wr [0, 0, 0, 0] []) [] SH M (am_rv (am_rk 86) x) SH M') : ∀ (n : Nat) (v1 v2 v3 : Int) (M : am_M), XL_X6_make_4_5 k7 n v1 v2 v3 M = some (x, M') → am_R none 86 bk_X6_make 5 (am_wr [7, 1, 1, 1] [v1, v2, v3]) [] SH M (am_rv (am_rk 86) x) SH M'
  | 0, v1, v2, v3, M, h => by cases h
  | n + 1, v1, v2, v3, M, h => rs_X6_make_4_5 (ls_X6_make_4_5 hk7 n) hk7 v1 v2 v3 M h
noncomputable def X_X6_make_4 (v1 v2 : Int) (M : am_M) : am_Rs := XB_X6_make_4_e (XL_X6_make_4_5 (XB_X6_make_4_7) 1000) v1 v2 M
theorem dc_X6_make_4 (v1 v2 : Int) (M M' : am_M) (x : Int) (h : X_X6_make_4 v1 v2 M = some (x, M')) : am_Calls 86 [.inr (.inr (some 4)), .inl v1, .inl v2] SH M (am_rv (am_rk 86) x) SH M' :=
  am_enter pn_X6_make ml_X6_make rfl (Nat.le_of_ble_eq_true rfl) ⟨Nat.le_refl _, Nat.le_refl _⟩ (rs_X6_make_4_e (ls_X6_make_4_5 (rs_X6_make_4_7) 1000) v1 v2 M h)
noncomputable def F_X8_text_0 : Nat → List am_V → am_M → am_Rs := fun k as M => if k = 81 then (match as with
  | [.inr (.inr (some 4)), .inl a1] => X_X6_isNumber_4 a1 M
  | _ => none) else if k = 86 then (match as with
  | [.inr (.inr (some 4)), .inl a1, .inl a2] => X_X6_make_4 a1 a2 M
  | _ => none) else if k = 154 then (match as with
  | [.inr (.inr (some 0)), .inl a1] => X_X8_find_0 a1 M
  | _ => none) else none
theorem fs_X8_text_0 : am_FS SH F_X8_text_0 := by
  intro k as M x M' h
  unfold F_X8_text_0 at h
  split at h
  · rename_i hk; subst hk
    split at h
    · exact dc_X6_isNumber_4 _ _ _ _ h
    · cases h
  split at h
  · rename_i hk; subst hk
    split at h
    · exact dc_X6_make_4 _ _ _ _ _ h
    · cases h
  split at h
  · rename_i hk; subst hk
    split at h
    · exact dc_X8_find_0 _ _ _ _ h
    · cases h
  cases h
noncomputable def X_X8_text_0 (v1 v2 : Int) (M : am_M) : am_Rs :=
  (X_X6_isNumber_4 v1 M).bind fun z1 =>
  if wI z1.1 = 0 then
   some ((-1), z1.2)
  else if 60 < wI v2 then
   some ((-1), z1.2)
  else if wI v2 < 0 then
   (X_X8_find_0 5 z1.2).bind fun z2 =>
   some (z2.1, z2.2)
  else (X_X6_make_4 v1 v2 z1.2).bind fun z2 =>
  some (v2, z2.2)
set_option maxRecDepth 100000 in
theorem dc_X8_text_0 (v1 v2 : Int) (M M' : am_M) (x : Int) (h : X_X8_text_0 v1 v2 M = some (x, M')) : am_Calls 112 [.inr (.inr (some 0)), .inl v1, .inl v2] SH M (am_rv (am_rk 112) x) SH M' :=
  vCall (F := F_X8_text_0) (C := fun _ _ _ _ => none) (fu := 8) ok_X8_text pn_X8_text ml_X8_text rfl (Nat.le_of_ble_eq_true rfl) fs_X8_text_0 (fun _ _ _ _ h => by cases h) h
noncomputable def X_X6_sizeOf_4 (v1 : Int) (M : am_M) : am_Rs :=
  if wI v1 < 0 then
   some ((-1), M)
  else if wI v1 < wI (M 4 0) then
   if 0 ≤ wI v1 ∧ wI v1 < 4 then
   some (M 5 (wI v1).toNat, M)
   else none
  else some ((-1), M)
set_option maxRecDepth 100000 in
theorem dc_X6_sizeOf_4 (v1 : Int) (M M' : am_M) (x : Int) (h : X_X6_sizeOf_4 v1 M = some (x, M')) : am_Calls 83 [.inr (.inr (some 4)), .inl v1] SH M (am_rv (am_rk 83) x) SH M' :=
  vCall (F := F_none) (C := fun _ _ _ _ => none) (fu := 7) ok_X6_sizeOf pn_X6_sizeOf ml_X6_sizeOf rfl (Nat.le_of_ble_eq_true rfl) fs_none (fun _ _ _ _ h => by cases h) h
noncomputable def F_X6_isThere_4 : Nat → List am_V → am_M → am_Rs := fun k as M => if k = 83 then (match as with
  | [.inr (.inr (some 4)), .inl a1] => X_X6_sizeOf_4 a1 M
  | _ => none) else none
theorem fs_X6_isThere_4 : am_FS SH F_X6_isThere_4 := by
  intro k as M x M' h
  unfold F_X6_isThere_4 at h
  split at h
  · rename_i hk; subst hk
    split at h
    · exact dc_X6_sizeOf_4 _ _ _ _ h
    · cases h
  cases h
noncomputable def X_X6_isThere_4 (v1 : Int) (M : am_M) : am_Rs :=
  (X_X6_sizeOf_4 v1 M).bind fun z1 =>
  if wI z1.1 = (-1) then
   some (0, z1.2)
  else some (1, z1.2)
set_option maxRecDepth 100000 in
theorem dc_X6_isThere_4 (v1 : Int) (M M' : am_M) (x : Int) (h : X_X6_isThere_4 v1 M = some (x, M')) : am_Calls 82 [.inr (.inr (some 4)), .inl v1] SH M (am_rv (am_rk 82) x) SH M' :=
  vCall (F := F_X6_isThere_4) (C := fun _ _ _ _ => none) (fu := 6) ok_X6_isThere pn_X6_isThere ml_X6_isThere rfl (Nat.le_of_ble_eq_true rfl) fs_X6_isThere_4 (fun _ _ _ _ h => by cases h) h
noncomputable def F_X6_hasPlace_4 : Nat → List am_V → am_M → am_Rs := fun k as M => if k = 83 then (match as with
  | [.inr (.inr (some 4)), .inl a1] => X_X6_sizeOf_4 a1 M
  | _ => none) else none
theorem fs_X6_hasPlace_4 : am_FS SH F_X6_hasPlace_4 := by
  intro k as M x M' h
  unfold F_X6_hasPlace_4 at h
  split at h
  · rename_i hk; subst hk
    split at h
    · exact dc_X6_sizeOf_4 _ _ _ _ h
    · cases h
  cases h
noncomputable def X_X6_hasPlace_4 (v1 v2 : Int) (M : am_M) : am_Rs :=
  if wI v2 < 0 then
   some (0, M)
  else (X_X6_sizeOf_4 v1 M).bind fun z1 =>
  if wI v2 < wI z1.1 then
   some (1, z1.2)
  else some (0, z1.2)
set_option maxRecDepth 100000 in
theorem dc_X6_hasPlace_4 (v1 v2 : Int) (M M' : am_M) (x : Int) (h : X_X6_hasPlace_4 v1 v2 M = some (x, M')) : am_Calls 84 [.inr (.inr (some 4)), .inl v1, .inl v2] SH M (am_rv (am_rk 84) x) SH M' :=
  vCall (F := F_X6_hasPlace_4) (C := fun _ _ _ _ => none) (fu := 7) ok_X6_hasPlace pn_X6_hasPlace ml_X6_hasPlace rfl (Nat.le_of_ble_eq_true rfl) fs_X6_hasPlace_4 (fun _ _ _ _ h => by cases h) h
noncomputable def F_X8_lackingPlace_4 : Nat → List am_V → am_M → am_Rs := fun k as M => if k = 82 then (match as with
  | [.inr (.inr (some 4)), .inl a1] => X_X6_isThere_4 a1 M
  | _ => none) else if k = 84 then (match as with
  | [.inr (.inr (some 4)), .inl a1, .inl a2] => X_X6_hasPlace_4 a1 a2 M
  | _ => none) else none
theorem fs_X8_lackingPlace_4 : am_FS SH F_X8_lackingPlace_4 := by
  intro k as M x M' h
  unfold F_X8_lackingPlace_4 at h
  split at h
  · rename_i hk; subst hk
    split at h
    · exact dc_X6_isThere_4 _ _ _ _ h
    · cases h
  split at h
  · rename_i hk; subst hk
    split at h
    · exact dc_X6_hasPlace_4 _ _ _ _ _ h
    · cases h
  cases h
noncomputable def X_X8_lackingPlace_4 (v1 v2 : Int) (M : am_M) : am_Rs :=
  (X_X6_isThere_4 v1 M).bind fun z1 =>
  if wI z1.1 = 0 then
   some (1, z1.2)
  else (X_X6_hasPlace_4 v1 v2 z1.2).bind fun z2 =>
  if wI z2.1 = 0 then
   some (2, z2.2)
  else some (0, z2.2)
set_option maxRecDepth 100000 in
theorem dc_X8_lackingPlace_4 (v1 v2 : Int) (M M' : am_M) (x : Int) (h : X_X8_lackingPlace_4 v1 v2 M = some (x, M')) : am_Calls 157 [.inr (.inr (some 4)), .inl v1, .inl v2] SH M (am_rv (am_rk 157) x) SH M' :=
  vCall (F := F_X8_lackingPlace_4) (C := fun _ _ _ _ => none) (fu := 8) ok_X8_lackingPlace pn_X8_lackingPlace ml_X8_lackingPlace rfl (Nat.le_of_ble_eq_true rfl) fs_X8_lackingPlace_4 (fun _ _ _ _ h => by cases h) h
noncomputable def F_X6_get_4 : Nat → List am_V → am_M → am_Rs := fun k as M => if k = 83 then (match as with
  | [.inr (.inr (some 4)), .inl a1] => X_X6_sizeOf_4 a1 M
  | _ => none) else none
theorem fs_X6_get_4 : am_FS SH F_X6_get_4 := by
  intro k as M x M' h
  unfold F_X6_get_4 at h
  split at h
  · rename_i hk; subst hk
    split at h
    · exact dc_X6_sizeOf_4 _ _ _ _ h
    · cases h
  cases h
noncomputable def X_X6_get_4 (v1 v2 : Int) (M : am_M) : am_Rs :=
  if wI v2 < 0 then
   some (0, M)
  else (X_X6_sizeOf_4 v1 M).bind fun z1 =>
  if wI v2 < wI z1.1 then
   if 0 ≤ wI ((v1 * (z1.2 4 1)) + v2) ∧ wI ((v1 * (z1.2 4 1)) + v2) < 240 then
   some (z1.2 6 (wI ((v1 * (z1.2 4 1)) + v2)).toNat, z1.2)
   else none
  else some (0, z1.2)
set_option maxRecDepth 100000 in
theorem dc_X6_get_4 (v1 v2 : Int) (M M' : am_M) (x : Int) (h : X_X6_get_4 v1 v2 M = some (x, M')) : am_Calls 88 [.inr (.inr (some 4)), .inl v1, .inl v2] SH M (am_rv (am_rk 88) x) SH M' :=
  vCall (F := F_X6_get_4) (C := fun _ _ _ _ => none) (fu := 7) ok_X6_get pn_X6_get ml_X6_get rfl (Nat.le_of_ble_eq_true rfl) fs_X6_get_4 (fun _ _ _ _ h => by cases h) h
noncomputable def F_X6_set_4 : Nat → List am_V → am_M → am_Rs := fun k as M => if k = 84 then (match as with
  | [.inr (.inr (some 4)), .inl a1, .inl a2] => X_X6_hasPlace_4 a1 a2 M
  | _ => none) else none
theorem fs_X6_set_4 : am_FS SH F_X6_set_4 := by
  intro k as M x M' h
  unfold F_X6_set_4 at h
  split at h
  · rename_i hk; subst hk
    split at h
    · exact dc_X6_hasPlace_4 _ _ _ _ _ h
    · cases h
  cases h
noncomputable def X_X6_set_4 (v1 v2 v3 : Int) (M : am_M) : am_Rs :=
  (X_X6_hasPlace_4 v1 v2 M).bind fun z1 =>
  if wI z1.1 = 0 then
   some (0, z1.2)
  else if 0 ≤ wI ((v1 * (z1.2 4 1)) + v2) ∧ wI ((v1 * (z1.2 4 1)) + v2) < 240 then
  some (0, (am_up z1.2 6 (wI ((v1 * (z1.2 4 1)) + v2)).toNat v3))
  else none
set_option maxRecDepth 100000 in
theorem dc_X6_set_4 (v1 v2 v3 : Int) (M M' : am_M) (x : Int) (h : X_X6_set_4 v1 v2 v3 M = some (x, M')) : am_Calls 89 [.inr (.inr (some 4)), .inl v1, .inl v2, .inl v3] SH M (am_rv (am_rk 89) x) SH M' :=
  vCall (F := F_X6_set_4) (C := fun _ _ _ _ => none) (fu := 5) ok_X6_set pn_X6_set ml_X6_set rfl (Nat.le_of_ble_eq_true rfl) fs_X6_set_4 (fun _ _ _ _ h => by cases h) h
noncomputable def F_X8_put_0 : Nat → List am_V → am_M → am_Rs := fun k as M => if k = 81 then (match as with
  | [.inr (.inr (some 4)), .inl a1] => X_X6_isNumber_4 a1 M
  | _ => none) else if k = 88 then (match as with
  | [.inr (.inr (some 4)), .inl a1, .inl a2] => X_X6_get_4 a1 a2 M
  | _ => none) else if k = 89 then (match as with
  | [.inr (.inr (some 4)), .inl a1, .inl a2, .inl a3] => X_X6_set_4 a1 a2 a3 M
  | _ => none) else if k = 154 then (match as with
  | [.inr (.inr (some 0)), .inl a1] => X_X8_find_0 a1 M
  | _ => none) else if k = 157 then (match as with
  | [.inr (.inr (some 4)), .inl a1, .inl a2] => X_X8_lackingPlace_4 a1 a2 M
  | _ => none) else none
theorem fs_X8_put_0 : am_FS SH F_X8_put_0 := by
  intro k as M x M' h
  unfold F_X8_put_0 at h
  split at h
  · rename_i hk; subst hk
    split at h
    · exact dc_X6_isNumber_4 _ _ _ _ h
    · cases h
  split at h
  · rename_i hk; subst hk
    split at h
    · exact dc_X6_get_4 _ _ _ _ _ h
    · cases h
  split at h
  · rename_i hk; subst hk
    split at h
    · exact dc_X6_set_4 _ _ _ _ _ _ h
    · cases h
  split at h
  · rename_i hk; subst hk
    split at h
    · exact dc_X8_find_0 _ _ _ _ h
    · cases h
  split at h
  · rename_i hk; subst hk
    split at h
    · exact dc_X8_lackingPlace_4 _ _ _ _ _ h
    · cases h
  cases h
noncomputable def X_X8_put_0 (v1 v2 v3 : Int) (M : am_M) : am_Rs :=
  (X_X6_isNumber_4 v1 M).bind fun z1 =>
  if wI z1.1 = 0 then
   some ((-1), z1.2)
  else (X_X8_lackingPlace_4 v1 v2 z1.2).bind fun z2 =>
  if wI z2.1 = 0 then
   (X_X6_get_4 v1 v2 z2.2).bind fun z3 =>
   (X_X6_set_4 v1 v2 (wB v3) z3.2).bind fun z4 =>
   some (z3.1 + 1000, z4.2)
  else (X_X8_find_0 z2.1 z2.2).bind fun z3 =>
  some (z3.1, z3.2)
set_option maxRecDepth 100000 in
theorem dc_X8_put_0 (v1 v2 v3 : Int) (M M' : am_M) (x : Int) (h : X_X8_put_0 v1 v2 v3 M = some (x, M')) : am_Calls 113 [.inr (.inr (some 0)), .inl v1, .inl v2, .inl v3] SH M (am_rv (am_rk 113) x) SH M' :=
  vCall (F := F_X8_put_0) (C := fun _ _ _ _ => none) (fu := 7) ok_X8_put pn_X8_put ml_X8_put rfl (Nat.le_of_ble_eq_true rfl) fs_X8_put_0 (fun _ _ _ _ h => by cases h) h
noncomputable def X_X2_clear_8 (M : am_M) : am_Rs :=
  some (0, (am_up M 8 0 0))
set_option maxRecDepth 100000 in
theorem dc_X2_clear_8 (M M' : am_M) (x : Int) (h : X_X2_clear_8 M = some (x, M')) : am_Calls 28 [.inr (.inr (some 8))] SH M (am_rv (am_rk 28) x) SH M' :=
  vCall (F := F_none) (C := fun _ _ _ _ => none) (fu := 3) ok_X2_clear pn_X2_clear ml_X2_clear rfl (Nat.le_of_ble_eq_true rfl) fs_none (fun _ _ _ _ h => by cases h) h
noncomputable def F_X5_sign_7 : Nat → List am_V → am_M → am_Rs := fun k as M => if k = 88 then (match as with
  | [.inr (.inr (some 4)), .inl a1, .inl a2] => X_X6_get_4 a1 a2 M
  | _ => none) else none
theorem fs_X5_sign_7 : am_FS SH F_X5_sign_7 := by
  intro k as M x M' h
  unfold F_X5_sign_7 at h
  split at h
  · rename_i hk; subst hk
    split at h
    · exact dc_X6_get_4 _ _ _ _ _ h
    · cases h
  cases h
noncomputable def X_X5_sign_7 (M : am_M) : am_Rs :=
  (X_X6_get_4 (M 7 5) (M 7 6) M).bind fun z1 =>
  some (z1.1, z1.2)
set_option maxRecDepth 100000 in
theorem dc_X5_sign_7 (M M' : am_M) (x : Int) (h : X_X5_sign_7 M = some (x, M')) : am_Calls 75 [.inr (.inr (some 7))] SH M (am_rv (am_rk 75) x) SH M' :=
  vCall (F := F_X5_sign_7) (C := fun _ _ _ _ => none) (fu := 3) ok_X5_sign pn_X5_sign ml_X5_sign rfl (Nat.le_of_ble_eq_true rfl) fs_X5_sign_7 (fun _ _ _ _ h => by cases h) h
noncomputable def F_X5_skipBlanks_7 : Nat → List am_V → am_M → am_Rs := fun k as M => if k = 75 then (match as with
  | [.inr (.inr (some 7))] => X_X5_sign_7 M
  | _ => none) else none
theorem fs_X5_skipBlanks_7 : am_FS SH F_X5_skipBlanks_7 := by
  intro k as M x M' h
  unfold F_X5_skipBlanks_7 at h
  split at h
  · rename_i hk; subst hk
    split at h
    · exact dc_X5_sign_7 _ _ _ h
    · cases h
  cases h
noncomputable def XB_X5_skipBlanks_7_1 (c1 : Int → am_M → am_Rs) (c4 : am_M → am_Rs) (v1 : Int) (M : am_M) : am_Rs :=
  if wI v1 < 60 then
   (X_X5_sign_7 M).bind fun z1 =>
   if wI z1.1 = 32 then
    c1 (v1 + 1) (am_up z1.2 7 6 ((z1.2 7 6) + 1))
   else c4 z1.2
  else c4 M
set_option maxRecDepth 100000 in
theorem rs_X5_skipBlanks_7_1 {x : Int} {M' : am_M} {c1 : Int → am_M → am_Rs} {c4 : am_M → am_Rs} (h1 : ∀ w1 M, c1 w1 M = some (x, M') → am_R none 74 bk_X5_skipBlanks 1 (am_wr [10, 1] [w1]) [] SH M (am_rv (am_rk 74) x) SH M') (h4 : ∀ M, c4 M = some (x, M') → am_R none 74 bk_X5_skipBlanks 4 (am_wr [0, 0] []) [] SH M (am_rv (am_rk 74) x) SH M') (v1 : Int) (M : am_M) (h : XB_X5_skipBlanks_7_1 c1 c4 v1 M = some (x, M')) : am_R none 74 bk_X5_skipBlanks 1 (am_wr [10, 1] [v1]) [] SH M (am_rv (am_rk 74) x) SH M' :=
  vRegion (sc := none) (sh := SH) (F := F_X5_skipBlanks_7) (k := 74) (bs := bk_X5_skipBlanks) (r := (x, M')) (C := fun t lv st M => if t = 1 then vCt [10, 1] (un1 c1) lv st M else if t = 4 then vCt [0, 0] (un0 c4) lv st M else none) ok_X5_skipBlanks fs_X5_skipBlanks_7 (fun t lv st M h => by
    split at h
    · rename_i e; subst e; exact vCt_s (un1_s h1) h
    split at h
    · rename_i e; subst e; exact vCt_s (un0_s h4) h
    cases h) 7 1 (am_wr [10, 1] [v1]) [] M h
noncomputable def XB_X5_skipBlanks_7_4 (M : am_M) : am_Rs :=
  some (0, M)
set_option maxRecDepth 100000 in
theorem rs_X5_skipBlanks_7_4 {x : Int} {M' : am_M} (M : am_M) (h : XB_X5_skipBlanks_7_4 M = some (x, M')) : am_R none 74 bk_X5_skipBlanks 4 (am_wr [0, 0] []) [] SH M (am_rv (am_rk 74) x) SH M' :=
  vRegion (sc := none) (sh := SH) (F := F_X5_skipBlanks_7) (k := 74) (bs := bk_X5_skipBlanks) (r := (x, M')) (C := fun t lv st M => none) ok_X5_skipBlanks fs_X5_skipBlanks_7 (fun t lv st M h => by
    cases h) 7 4 (am_wr [0, 0] []) [] M h
noncomputable def XB_X5_skipBlanks_7_e (c1 : Int → am_M → am_Rs) (M : am_M) : am_Rs :=
  c1 0 M
set_option maxRecDepth 100000 in
theorem rs_X5_skipBlanks_7_e {x : Int} {M' : am_M} {c1 : Int → am_M → am_Rs} (h1 : ∀ w1 M, c1 w1 M = some (x, M') → am_R none 74 bk_X5_skipBlanks 1 (am_wr [10, 1] [w1]) [] SH M (am_rv (am_rk 74) x) SH M') (M : am_M) (h : XB_X5_skipBlanks_7_e c1 M = some (x, M')) : am_R none 74 bk_X5_skipBlanks 0 (am_ent 2 [.inr (.inr (some 7))]) [] SH M (am_rv (am_rk 74) x) SH M' :=
  vRegion (sc := none) (sh := SH) (F := F_X5_skipBlanks_7) (k := 74) (bs := bk_X5_skipBlanks) (r := (x, M')) (C := fun t lv st M => if t = 1 then vCt [10, 1] (un1 c1) lv st M else none) ok_X5_skipBlanks fs_X5_skipBlanks_7 (fun t lv st M h => by
    split at h
    · rename_i e; subst e; exact vCt_s (un1_s h1) h
    cases h) 7 0 (am_ent 2 [.inr (.inr (some 7))]) [] M h
noncomputable def XL_X5_skipBlanks_7_1 (k4 : am_M → am_Rs) : Nat → Int → am_M → am_Rs
  | 0, _, _ => none
  | n + 1, v1, M => XB_X5_skipBlanks_7_1 (XL_X5_skipBlanks_7_1 k4 n) k4 v1 M
theorem ls_X5_skipBlanks_7_1 {x : Int} {M' : am_M} {k4 : am_M → am_Rs} (hk4 : ∀ M, k4 M = some (x, M') → am_R none 74 bk_X5_skipBlanks 4 (am_wr [0, 0] []) [] SH M (am_rv (am_rk 74) x) SH M') : ∀ (n : Nat) (v1 : Int) (M : am_M), XL_X5_skipBlanks_7_1 k4 n v1 M = some (x, M') → am_R none 74 bk_X5_skipBlanks 1 (am_wr [10, 1] [v1]) [] SH M (am_rv (am_rk 74) x) SH M'
  | 0, v1, M, h => by cases h
  | n + 1, v1, M, h => rs_X5_skipBlanks_7_1 (ls_X5_skipBlanks_7_1 hk4 n) hk4 v1 M h
noncomputable def X_X5_skipBlanks_7 (M : am_M) : am_Rs := XB_X5_skipBlanks_7_e (XL_X5_skipBlanks_7_1 (XB_X5_skipBlanks_7_4) 1000) M
theorem dc_X5_skipBlanks_7 (M M' : am_M) (x : Int) (h : X_X5_skipBlanks_7 M = some (x, M')) : am_Calls 74 [.inr (.inr (some 7))] SH M (am_rv (am_rk 74) x) SH M' :=
  am_enter pn_X5_skipBlanks ml_X5_skipBlanks rfl (Nat.le_of_ble_eq_true rfl) ⟨Nat.le_refl _, Nat.le_refl _⟩ (rs_X5_skipBlanks_7_e (ls_X5_skipBlanks_7_1 (rs_X5_skipBlanks_7_4) 1000) M h)
noncomputable def X_X5_kindOfSign (v0 : Int) (M : am_M) : am_Rs :=
  if wI v0 = 102 then
   some (1, M)
  else if wI v0 = 102 + 1 then
   some ((-1), M)
  else if wI v0 = 102 + 1 + 1 then
   some ((-1), M)
  else if wI v0 = 102 + 1 + 1 + 1 then
   some (4, M)
  else if wI v0 = 102 + 1 + 1 + 1 + 1 then
   some ((-1), M)
  else if wI v0 = 102 + 1 + 1 + 1 + 1 + 1 then
   some ((-1), M)
  else if wI v0 = 102 + 1 + 1 + 1 + 1 + 1 + 1 then
   some ((-1), M)
  else if wI v0 = 102 + 1 + 1 + 1 + 1 + 1 + 1 + 1 then
   some ((-1), M)
  else if wI v0 = 102 + 1 + 1 + 1 + 1 + 1 + 1 + 1 + 1 then
   some ((-1), M)
  else if wI v0 = 102 + 1 + 1 + 1 + 1 + 1 + 1 + 1 + 1 + 1 then
   some ((-1), M)
  else if wI v0 = 102 + 1 + 1 + 1 + 1 + 1 + 1 + 1 + 1 + 1 + 1 then
   some ((-1), M)
  else if wI v0 = 102 + 1 + 1 + 1 + 1 + 1 + 1 + 1 + 1 + 1 + 1 + 1 then
   some ((-1), M)
  else if wI v0 = 102 + 1 + 1 + 1 + 1 + 1 + 1 + 1 + 1 + 1 + 1 + 1 + 1 then
   some (3, M)
  else if wI v0 = 102 + 1 + 1 + 1 + 1 + 1 + 1 + 1 + 1 + 1 + 1 + 1 + 1 + 1 then
   some (0, M)
  else if wI v0 = 102 + 1 + 1 + 1 + 1 + 1 + 1 + 1 + 1 + 1 + 1 + 1 + 1 + 1 + 1 then
   some (5, M)
  else if wI v0 = 102 + 1 + 1 + 1 + 1 + 1 + 1 + 1 + 1 + 1 + 1 + 1 + 1 + 1 + 1 + 1 then
   some ((-1), M)
  else if wI v0 = 102 + 1 + 1 + 1 + 1 + 1 + 1 + 1 + 1 + 1 + 1 + 1 + 1 + 1 + 1 + 1 + 1 then
   some ((-1), M)
  else if wI v0 = 102 + 1 + 1 + 1 + 1 + 1 + 1 + 1 + 1 + 1 + 1 + 1 + 1 + 1 + 1 + 1 + 1 + 1 then
   some (2, M)
  else some ((-1), M)
set_option maxRecDepth 100000 in
theorem dc_X5_kindOfSign (v0 : Int) (M M' : am_M) (x : Int) (h : X_X5_kindOfSign v0 M = some (x, M')) : am_Calls 79 [.inl v0] SH M (am_rv (am_rk 79) x) SH M' :=
  vCall (F := F_none) (C := fun _ _ _ _ => none) (fu := 10) ok_X5_kindOfSign pn_X5_kindOfSign ml_X5_kindOfSign rfl (Nat.le_of_ble_eq_true rfl) fs_none (fun _ _ _ _ h => by cases h) h
noncomputable def X_X2_hasRoom_8 (M : am_M) : am_Rs :=
  if wI (M 8 0) < 12 then
   some (1, M)
  else some (0, M)
set_option maxRecDepth 100000 in
theorem dc_X2_hasRoom_8 (M M' : am_M) (x : Int) (h : X_X2_hasRoom_8 M = some (x, M')) : am_Calls 29 [.inr (.inr (some 8))] SH M (am_rv (am_rk 29) x) SH M' :=
  vCall (F := F_none) (C := fun _ _ _ _ => none) (fu := 6) ok_X2_hasRoom pn_X2_hasRoom ml_X2_hasRoom rfl (Nat.le_of_ble_eq_true rfl) fs_none (fun _ _ _ _ h => by cases h) h
noncomputable def F_X5_readFigure_7 : Nat → List am_V → am_M → am_Rs := fun k as M => if k = 75 then (match as with
  | [.inr (.inr (some 7))] => X_X5_sign_7 M
  | _ => none) else none
theorem fs_X5_readFigure_7 : am_FS SH F_X5_readFigure_7 := by
  intro k as M x M' h
  unfold F_X5_readFigure_7 at h
  split at h
  · rename_i hk; subst hk
    split at h
    · exact dc_X5_sign_7 _ _ _ h
    · cases h
  cases h
noncomputable def X_X5_readFigure_7 (v1 v2 : Int) (M : am_M) : am_Rs :=
  (X_X5_sign_7 M).bind fun z1 =>
  if wI z1.1 < 48 then
   some ((-1), z1.2)
  else if 57 < wI z1.1 then
   some ((-1), z1.2)
  else if wI (z1.1 - 48) < wI v1 then
   some ((-1), z1.2)
  else if wI v2 < wI (z1.1 - 48) then
   some ((-1), z1.2)
  else some (z1.1 - 48, (am_up z1.2 7 6 ((z1.2 7 6) + 1)))
set_option maxRecDepth 100000 in
theorem dc_X5_readFigure_7 (v1 v2 : Int) (M M' : am_M) (x : Int) (h : X_X5_readFigure_7 v1 v2 M = some (x, M')) : am_Calls 78 [.inr (.inr (some 7)), .inl v1, .inl v2] SH M (am_rv (am_rk 78) x) SH M' :=
  vCall (F := F_X5_readFigure_7) (C := fun _ _ _ _ => none) (fu := 8) ok_X5_readFigure pn_X5_readFigure ml_X5_readFigure rfl (Nat.le_of_ble_eq_true rfl) fs_X5_readFigure_7 (fun _ _ _ _ h => by cases h) h
noncomputable def F_X2_add_8 : Nat → List am_V → am_M → am_Rs := fun k as M => if k = 29 then (match as with
  | [.inr (.inr (some 8))] => X_X2_hasRoom_8 M
  | _ => none) else none
theorem fs_X2_add_8 : am_FS SH F_X2_add_8 := by
  intro k as M x M' h
  unfold F_X2_add_8 at h
  split at h
  · rename_i hk; subst hk
    split at h
    · exact dc_X2_hasRoom_8 _ _ _ h
    · cases h
  cases h
noncomputable def X_X2_add_8 (v1 v2 : Int) (M : am_M) : am_Rs :=
  (X_X2_hasRoom_8 M).bind fun z1 =>
  if wI z1.1 = 0 then
   some (0, z1.2)
  else if 0 ≤ wI (z1.2 8 0) ∧ wI (z1.2 8 0) < 12 then
  if 0 ≤ wI ((am_up z1.2 9 (wI (z1.2 8 0)).toNat v1) 8 0) ∧ wI ((am_up z1.2 9 (wI (z1.2 8 0)).toNat v1) 8 0) < 12 then
   some (0, (am_up (am_up (am_up z1.2 9 (wI (z1.2 8 0)).toNat v1) 10 (wI ((am_up z1.2 9 (wI (z1.2 8 0)).toNat v1) 8 0)).toNat v2) 8 0 (((am_up (am_up z1.2 9 (wI (z1.2 8 0)).toNat v1) 10 (wI ((am_up z1.2 9 (wI (z1.2 8 0)).toNat v1) 8 0)).toNat v2) 8 0) + 1)))
   else none
  else none
set_option maxRecDepth 100000 in
theorem dc_X2_add_8 (v1 v2 : Int) (M M' : am_M) (x : Int) (h : X_X2_add_8 v1 v2 M = some (x, M')) : am_Calls 30 [.inr (.inr (some 8)), .inl v1, .inl v2] SH M (am_rv (am_rk 30) x) SH M' :=
  vCall (F := F_X2_add_8) (C := fun _ _ _ _ => none) (fu := 5) ok_X2_add pn_X2_add ml_X2_add rfl (Nat.le_of_ble_eq_true rfl) fs_X2_add_8 (fun _ _ _ _ h => by cases h) h
noncomputable def F_X5_readStrip_7 : Nat → List am_V → am_M → am_Rs := fun k as M => if k = 29 then (match as with
  | [.inr (.inr (some 8))] => X_X2_hasRoom_8 M
  | _ => none) else if k = 30 then (match as with
  | [.inr (.inr (some 8)), .inl a1, .inl a2] => X_X2_add_8 a1 a2 M
  | _ => none) else if k = 75 then (match as with
  | [.inr (.inr (some 7))] => X_X5_sign_7 M
  | _ => none) else if k = 78 then (match as with
  | [.inr (.inr (some 7)), .inl a1, .inl a2] => X_X5_readFigure_7 a1 a2 M
  | _ => none) else if k = 79 then (match as with
  | [.inl a0] => X_X5_kindOfSign a0 M
  | _ => none) else none
theorem fs_X5_readStrip_7 : am_FS SH F_X5_readStrip_7 := by
  intro k as M x M' h
  unfold F_X5_readStrip_7 at h
  split at h
  · rename_i hk; subst hk
    split at h
    · exact dc_X2_hasRoom_8 _ _ _ h
    · cases h
  split at h
  · rename_i hk; subst hk
    split at h
    · exact dc_X2_add_8 _ _ _ _ _ h
    · cases h
  split at h
  · rename_i hk; subst hk
    split at h
    · exact dc_X5_sign_7 _ _ _ h
    · cases h
  split at h
  · rename_i hk; subst hk
    split at h
    · exact dc_X5_readFigure_7 _ _ _ _ _ h
    · cases h
  split at h
  · rename_i hk; subst hk
    split at h
    · exact dc_X5_kindOfSign _ _ _ _ h
    · cases h
  cases h
noncomputable def X_X5_readStrip_7 (M : am_M) : am_Rs :=
  (X_X5_sign_7 M).bind fun z1 =>
  (X_X5_kindOfSign z1.1 z1.2).bind fun z2 =>
  if wI z2.1 < 0 then
   some (0, z2.2)
  else (X_X2_hasRoom_8 z2.2).bind fun z3 =>
  if wI z3.1 = 0 then
   some (0, z3.2)
  else (X_X5_readFigure_7 0 9 (am_up z3.2 7 6 ((z3.2 7 6) + 1))).bind fun z4 =>
  if wI z4.1 < 0 then
   some (0, z4.2)
  else (X_X2_add_8 z2.1 z4.1 z4.2).bind fun z5 =>
  some (1, z5.2)
set_option maxRecDepth 100000 in
theorem dc_X5_readStrip_7 (M M' : am_M) (x : Int) (h : X_X5_readStrip_7 M = some (x, M')) : am_Calls 76 [.inr (.inr (some 7))] SH M (am_rv (am_rk 76) x) SH M' :=
  vCall (F := F_X5_readStrip_7) (C := fun _ _ _ _ => none) (fu := 8) ok_X5_readStrip pn_X5_readStrip ml_X5_readStrip rfl (Nat.le_of_ble_eq_true rfl) fs_X5_readStrip_7 (fun _ _ _ _ h => by cases h) h
noncomputable def F_X5_readEnd_7 : Nat → List am_V → am_M → am_Rs := fun k as M => if k = 74 then (match as with
  | [.inr (.inr (some 7))] => X_X5_skipBlanks_7 M
  | _ => none) else if k = 78 then (match as with
  | [.inr (.inr (some 7)), .inl a1, .inl a2] => X_X5_readFigure_7 a1 a2 M
  | _ => none) else if k = 83 then (match as with
  | [.inr (.inr (some 4)), .inl a1] => X_X6_sizeOf_4 a1 M
  | _ => none) else none
theorem fs_X5_readEnd_7 : am_FS SH F_X5_readEnd_7 := by
  intro k as M x M' h
  unfold F_X5_readEnd_7 at h
  split at h
  · rename_i hk; subst hk
    split at h
    · exact dc_X5_skipBlanks_7 _ _ _ h
    · cases h
  split at h
  · rename_i hk; subst hk
    split at h
    · exact dc_X5_readFigure_7 _ _ _ _ _ h
    · cases h
  split at h
  · rename_i hk; subst hk
    split at h
    · exact dc_X6_sizeOf_4 _ _ _ _ h
    · cases h
  cases h
noncomputable def X_X5_readEnd_7 (M : am_M) : am_Rs :=
  (X_X5_readFigure_7 0 ((am_up M 7 6 ((M 7 6) + 1)) 8 0) (am_up M 7 6 ((M 7 6) + 1))).bind fun z1 =>
  if wI ((am_up z1.2 7 1 z1.1) 7 1) < 0 then
   some (0, (am_up z1.2 7 1 z1.1))
  else (X_X5_readFigure_7 1 9 (am_up z1.2 7 1 z1.1)).bind fun z2 =>
  if wI ((am_up z2.2 7 2 z2.1) 7 2) < 0 then
   some (0, (am_up z2.2 7 2 z2.1))
  else (X_X5_readFigure_7 1 9 (am_up z2.2 7 2 z2.1)).bind fun z3 =>
  if wI ((am_up z3.2 7 3 z3.1) 7 3) < 0 then
   some (0, (am_up z3.2 7 3 z3.1))
  else (X_X5_skipBlanks_7 (am_up z3.2 7 3 z3.1)).bind fun z4 =>
  (X_X6_sizeOf_4 (z4.2 7 5) z4.2).bind fun z5 =>
  if wI (z4.2 7 6) < wI z5.1 then
   some (0, z5.2)
  else some (1, z5.2)
set_option maxRecDepth 100000 in
theorem dc_X5_readEnd_7 (M M' : am_M) (x : Int) (h : X_X5_readEnd_7 M = some (x, M')) : am_Calls 77 [.inr (.inr (some 7))] SH M (am_rv (am_rk 77) x) SH M' :=
  vCall (F := F_X5_readEnd_7) (C := fun _ _ _ _ => none) (fu := 12) ok_X5_readEnd pn_X5_readEnd ml_X5_readEnd rfl (Nat.le_of_ble_eq_true rfl) fs_X5_readEnd_7 (fun _ _ _ _ h => by cases h) h
end
section
noncomputable def F_X5_read_7 : Nat → List am_V → am_M → am_Rs := fun k as M => if k = 28 then (match as with
  | [.inr (.inr (some 8))] => X_X2_clear_8 M
  | _ => none) else if k = 74 then (match as with
  | [.inr (.inr (some 7))] => X_X5_skipBlanks_7 M
  | _ => none) else if k = 75 then (match as with
  | [.inr (.inr (some 7))] => X_X5_sign_7 M
  | _ => none) else if k = 76 then (match as with
  | [.inr (.inr (some 7))] => X_X5_readStrip_7 M
  | _ => none) else if k = 77 then (match as with
  | [.inr (.inr (some 7))] => X_X5_readEnd_7 M
  | _ => none) else none
theorem fs_X5_read_7 : am_FS SH F_X5_read_7 := by
  intro k as M x M' h
  unfold F_X5_read_7 at h
  split at h
  · rename_i hk; subst hk
    split at h
    · exact dc_X2_clear_8 _ _ _ h
    · cases h
  split at h
  · rename_i hk; subst hk
    split at h
    · exact dc_X5_skipBlanks_7 _ _ _ h
    · cases h
  split at h
  · rename_i hk; subst hk
    split at h
    · exact dc_X5_sign_7 _ _ _ h
    · cases h
  split at h
  · rename_i hk; subst hk
    split at h
    · exact dc_X5_readStrip_7 _ _ _ h
    · cases h
  split at h
  · rename_i hk; subst hk
    split at h
    · exact dc_X5_readEnd_7 _ _ _ h
    · cases h
  cases h
noncomputable def XB_X5_read_7_1 (c1 : Int → am_M → am_Rs) (c4 : am_M → am_Rs) (c11 : am_M → am_Rs) (v2 : Int) (M : am_M) : am_Rs :=
  if 12 < wI v2 then
   c11 M
  else (X_X5_skipBlanks_7 M).bind fun z1 =>
  (X_X5_sign_7 z1.2).bind fun z2 =>
  if wI z2.1 = 98 then
   if wI (z2.2 8 0) < 2 then
    (X_X5_readStrip_7 z2.2).bind fun z3 =>
    if wI z3.1 = 0 then
     some (z3.2 7 6, z3.2)
    else c1 (v2 + 1) z3.2
   else c4 z2.2
  else (X_X5_readStrip_7 z2.2).bind fun z3 =>
  if wI z3.1 = 0 then
   some (z3.2 7 6, z3.2)
  else c1 (v2 + 1) z3.2
set_option maxRecDepth 100000 in
theorem rs_X5_read_7_1 {x : Int} {M' : am_M} {c1 : Int → am_M → am_Rs} {c4 : am_M → am_Rs} {c11 : am_M → am_Rs} (h1 : ∀ w2 M, c1 w2 M = some (x, M') → am_R none 73 bk_X5_read 1 (am_wr [10, 0, 1] [w2]) [] SH M (am_rv (am_rk 73) x) SH M') (h4 : ∀ M, c4 M = some (x, M') → am_R none 73 bk_X5_read 4 (am_wr [10, 0, 0] []) [] SH M (am_rv (am_rk 73) x) SH M') (h11 : ∀ M, c11 M = some (x, M') → am_R none 73 bk_X5_read 11 (am_wr [10, 0, 0] []) [] SH M (am_rv (am_rk 73) x) SH M') (v2 : Int) (M : am_M) (h : XB_X5_read_7_1 c1 c4 c11 v2 M = some (x, M')) : am_R none 73 bk_X5_read 1 (am_wr [10, 0, 1] [v2]) [] SH M (am_rv (am_rk 73) x) SH M' :=
  vRegion (sc := none) (sh := SH) (F := F_X5_read_7) (k := 73) (bs := bk_X5_read) (r := (x, M')) (C := fun t lv st M => if t = 1 then vCt [10, 0, 1] (un1 c1) lv st M else if t = 4 then vCt [10, 0, 0] (un0 c4) lv st M else if t = 11 then vCt [10, 0, 0] (un0 c11) lv st M else none) ok_X5_read fs_X5_read_7 (fun t lv st M h => by
    split at h
    · rename_i e; subst e; exact vCt_s (un1_s h1) h
    split at h
    · rename_i e; subst e; exact vCt_s (un0_s h4) h
    split at h
    · rename_i e; subst e; exact vCt_s (un0_s h11) h
    cases h) 14 1 (am_wr [10, 0, 1] [v2]) [] M h
noncomputable def XB_X5_read_7_4 (M : am_M) : am_Rs :=
  (X_X5_readEnd_7 M).bind fun z1 =>
  if wI z1.1 = 0 then
   some (z1.2 7 6, z1.2)
  else some ((-9), z1.2)
set_option maxRecDepth 100000 in
theorem rs_X5_read_7_4 {x : Int} {M' : am_M} (M : am_M) (h : XB_X5_read_7_4 M = some (x, M')) : am_R none 73 bk_X5_read 4 (am_wr [10, 0, 0] []) [] SH M (am_rv (am_rk 73) x) SH M' :=
  vRegion (sc := none) (sh := SH) (F := F_X5_read_7) (k := 73) (bs := bk_X5_read) (r := (x, M')) (C := fun t lv st M => none) ok_X5_read fs_X5_read_7 (fun t lv st M h => by
    cases h) 14 4 (am_wr [10, 0, 0] []) [] M h
noncomputable def XB_X5_read_7_11 (M : am_M) : am_Rs :=
  some (M 7 6, M)
set_option maxRecDepth 100000 in
theorem rs_X5_read_7_11 {x : Int} {M' : am_M} (M : am_M) (h : XB_X5_read_7_11 M = some (x, M')) : am_R none 73 bk_X5_read 11 (am_wr [10, 0, 0] []) [] SH M (am_rv (am_rk 73) x) SH M' :=
  vRegion (sc := none) (sh := SH) (F := F_X5_read_7) (k := 73) (bs := bk_X5_read) (r := (x, M')) (C := fun t lv st M => none) ok_X5_read fs_X5_read_7 (fun t lv st M h => by
    cases h) 14 11 (am_wr [10, 0, 0] []) [] M h
noncomputable def XB_X5_read_7_e (c1 : Int → am_M → am_Rs) (v1 : Int) (M : am_M) : am_Rs :=
  (X_X2_clear_8 (am_up (am_up M 7 5 v1) 7 6 0)).bind fun z1 =>
  c1 0 z1.2
set_option maxRecDepth 100000 in
theorem rs_X5_read_7_e {x : Int} {M' : am_M} {c1 : Int → am_M → am_Rs} (h1 : ∀ w2 M, c1 w2 M = some (x, M') → am_R none 73 bk_X5_read 1 (am_wr [10, 0, 1] [w2]) [] SH M (am_rv (am_rk 73) x) SH M') (v1 : Int) (M : am_M) (h : XB_X5_read_7_e c1 v1 M = some (x, M')) : am_R none 73 bk_X5_read 0 (am_ent 3 [.inr (.inr (some 7)), .inl v1]) [] SH M (am_rv (am_rk 73) x) SH M' :=
  vRegion (sc := none) (sh := SH) (F := F_X5_read_7) (k := 73) (bs := bk_X5_read) (r := (x, M')) (C := fun t lv st M => if t = 1 then vCt [10, 0, 1] (un1 c1) lv st M else none) ok_X5_read fs_X5_read_7 (fun t lv st M h => by
    split at h
    · rename_i e; subst e; exact vCt_s (un1_s h1) h
    cases h) 14 0 (am_ent 3 [.inr (.inr (some 7)), .inl v1]) [] M h
noncomputable def XL_X5_read_7_1 (k4 : am_M → am_Rs) (k11 : am_M → am_Rs) : Nat → Int → am_M → am_Rs
  | 0, _, _ => none
  | n + 1, v2, M => XB_X5_read_7_1 (XL_X5_read_7_1 k4 k11 n) k4 k11 v2 M
theorem ls_X5_read_7_1 {x : Int} {M' : am_M} {k4 : am_M → am_Rs} {k11 : am_M → am_Rs} (hk4 : ∀ M, k4 M = some (x, M') → am_R none 73 bk_X5_read 4 (am_wr [10, 0, 0] []) [] SH M (am_rv (am_rk 73) x) SH M') (hk11 : ∀ M, k11 M = some (x, M') → am_R none 73 bk_X5_read 11 (am_wr [10, 0, 0] []) [] SH M (am_rv (am_rk 73) x) SH M') : ∀ (n : Nat) (v2 : Int) (M : am_M), XL_X5_read_7_1 k4 k11 n v2 M = some (x, M') → am_R none 73 bk_X5_read 1 (am_wr [10, 0, 1] [v2]) [] SH M (am_rv (am_rk 73) x) SH M'
  | 0, v2, M, h => by cases h
  | n + 1, v2, M, h => rs_X5_read_7_1 (ls_X5_read_7_1 hk4 hk11 n) hk4 hk11 v2 M h
noncomputable def X_X5_read_7 (v1 : Int) (M : am_M) : am_Rs := XB_X5_read_7_e (XL_X5_read_7_1 (XB_X5_read_7_4) (XB_X5_read_7_11) 1000) v1 M
theorem dc_X5_read_7 (v1 : Int) (M M' : am_M) (x : Int) (h : X_X5_read_7 v1 M = some (x, M')) : am_Calls 73 [.inr (.inr (some 7)), .inl v1] SH M (am_rv (am_rk 73) x) SH M' :=
  am_enter pn_X5_read ml_X5_read rfl (Nat.le_of_ble_eq_true rfl) ⟨Nat.le_refl _, Nat.le_refl _⟩ (rs_X5_read_7_e (ls_X5_read_7_1 (rs_X5_read_7_4) (rs_X5_read_7_11) 1000) v1 M h)
noncomputable def F_X8_fault_0 : Nat → List am_V → am_M → am_Rs := fun k as M => if k = 73 then (match as with
  | [.inr (.inr (some 7)), .inl a1] => X_X5_read_7 a1 M
  | _ => none) else if k = 81 then (match as with
  | [.inr (.inr (some 4)), .inl a1] => X_X6_isNumber_4 a1 M
  | _ => none) else if k = 82 then (match as with
  | [.inr (.inr (some 4)), .inl a1] => X_X6_isThere_4 a1 M
  | _ => none) else if k = 154 then (match as with
  | [.inr (.inr (some 0)), .inl a1] => X_X8_find_0 a1 M
  | _ => none) else none
theorem fs_X8_fault_0 : am_FS SH F_X8_fault_0 := by
  intro k as M x M' h
  unfold F_X8_fault_0 at h
  split at h
  · rename_i hk; subst hk
    split at h
    · exact dc_X5_read_7 _ _ _ _ h
    · cases h
  split at h
  · rename_i hk; subst hk
    split at h
    · exact dc_X6_isNumber_4 _ _ _ _ h
    · cases h
  split at h
  · rename_i hk; subst hk
    split at h
    · exact dc_X6_isThere_4 _ _ _ _ h
    · cases h
  split at h
  · rename_i hk; subst hk
    split at h
    · exact dc_X8_find_0 _ _ _ _ h
    · cases h
  cases h
noncomputable def X_X8_fault_0 (v1 : Int) (M : am_M) : am_Rs :=
  (X_X6_isNumber_4 v1 M).bind fun z1 =>
  if wI z1.1 = 0 then
   some ((-1), z1.2)
  else (X_X6_isThere_4 v1 z1.2).bind fun z2 =>
  if wI z2.1 = 0 then
   (X_X8_find_0 1 z2.2).bind fun z3 =>
   some (z3.1, z3.2)
  else (X_X5_read_7 v1 z2.2).bind fun z3 =>
  some (z3.1, z3.2)
set_option maxRecDepth 100000 in
theorem dc_X8_fault_0 (v1 : Int) (M M' : am_M) (x : Int) (h : X_X8_fault_0 v1 M = some (x, M')) : am_Calls 114 [.inr (.inr (some 0)), .inl v1] SH M (am_rv (am_rk 114) x) SH M' :=
  vCall (F := F_X8_fault_0) (C := fun _ _ _ _ => none) (fu := 7) ok_X8_fault pn_X8_fault ml_X8_fault rfl (Nat.le_of_ble_eq_true rfl) fs_X8_fault_0 (fun _ _ _ _ h => by cases h) h
noncomputable def X_X2_takeFrom_11_8 (M : am_M) : am_Rs :=
  some (0, (am_cpy (am_cpy (am_up M 11 0 (M 8 0)) 9 12 0 0 12) 10 13 0 0 12))
set_option maxRecDepth 100000 in
theorem dc_X2_takeFrom_11_8 (M M' : am_M) (x : Int) (h : X_X2_takeFrom_11_8 M = some (x, M')) : am_Calls 31 [.inr (.inr (some 11)), .inr (.inr (some 8))] SH M (am_rv (am_rk 31) x) SH M' :=
  vCall (F := F_none) (C := fun _ _ _ _ => none) (fu := 3) ok_X2_takeFrom pn_X2_takeFrom ml_X2_takeFrom rfl (Nat.le_of_ble_eq_true rfl) fs_none (fun _ _ _ _ h => by cases h) h
noncomputable def X_X1_begin_14 (v1 v2 v3 : Int) (M : am_M) : am_Rs :=
  some (0, (am_up (am_up (am_up (am_up (am_up M 14 0 0) 14 1 v1) 14 2 v2) 14 3 v3) 17 0 v1))
set_option maxRecDepth 100000 in
theorem dc_X1_begin_14 (v1 v2 v3 : Int) (M M' : am_M) (x : Int) (h : X_X1_begin_14 v1 v2 v3 M = some (x, M')) : am_Calls 13 [.inr (.inr (some 14)), .inl v1, .inl v2, .inl v3] SH M (am_rv (am_rk 13) x) SH M' :=
  vCall (F := F_none) (C := fun _ _ _ _ => none) (fu := 3) ok_X1_begin pn_X1_begin ml_X1_begin rfl (Nat.le_of_ble_eq_true rfl) fs_none (fun _ _ _ _ h => by cases h) h
noncomputable def XB_J7_fill_53178_35_1 (c1 : Int → Int → Int → am_M → am_Rs) (c3 : am_M → am_Rs) (v1 v2 v3 : Int) (M : am_M) : am_Rs :=
  if wI v2 < wI v3 then
   if 0 ≤ wI v2 ∧ wI v2 < 3 then
   c1 v1 (v2 + 1) v3 (am_up M 35 (wI v2).toNat v1)
   else none
  else c3 M
set_option maxRecDepth 100000 in
theorem rs_J7_fill_53178_35_1 {x : Int} {M' : am_M} {c1 : Int → Int → Int → am_M → am_Rs} {c3 : am_M → am_Rs} (h1 : ∀ w1 w2 w3 M, c1 w1 w2 w3 M = some (x, M') → am_R none 277 bk_J7_fill_53178 1 (am_wr [38, 1, 1, 1] [w1, w2, w3]) [] SH M (am_rv (am_rk 277) x) SH M') (h3 : ∀ M, c3 M = some (x, M') → am_R none 277 bk_J7_fill_53178 3 (am_wr [0, 0, 0, 0] []) [] SH M (am_rv (am_rk 277) x) SH M') (v1 v2 v3 : Int) (M : am_M) (h : XB_J7_fill_53178_35_1 c1 c3 v1 v2 v3 M = some (x, M')) : am_R none 277 bk_J7_fill_53178 1 (am_wr [38, 1, 1, 1] [v1, v2, v3]) [] SH M (am_rv (am_rk 277) x) SH M' :=
  vRegion (sc := none) (sh := SH) (F := F_none) (k := 277) (bs := bk_J7_fill_53178) (r := (x, M')) (C := fun t lv st M => if t = 1 then vCt [38, 1, 1, 1] (un3 c1) lv st M else if t = 3 then vCt [0, 0, 0, 0] (un0 c3) lv st M else none) ok_J7_fill_53178 fs_none (fun t lv st M h => by
    split at h
    · rename_i e; subst e; exact vCt_s (un3_s h1) h
    split at h
    · rename_i e; subst e; exact vCt_s (un0_s h3) h
    cases h) 6 1 (am_wr [38, 1, 1, 1] [v1, v2, v3]) [] M h
noncomputable def XB_J7_fill_53178_35_3 (M : am_M) : am_Rs :=
  some (0, M)
set_option maxRecDepth 100000 in
theorem rs_J7_fill_53178_35_3 {x : Int} {M' : am_M} (M : am_M) (h : XB_J7_fill_53178_35_3 M = some (x, M')) : am_R none 277 bk_J7_fill_53178 3 (am_wr [0, 0, 0, 0] []) [] SH M (am_rv (am_rk 277) x) SH M' :=
  vRegion (sc := none) (sh := SH) (F := F_none) (k := 277) (bs := bk_J7_fill_53178) (r := (x, M')) (C := fun t lv st M => none) ok_J7_fill_53178 fs_none (fun t lv st M h => by
    cases h) 6 3 (am_wr [0, 0, 0, 0] []) [] M h
noncomputable def XB_J7_fill_53178_35_e (c1 : Int → Int → Int → am_M → am_Rs) (v1 : Int) (M : am_M) : am_Rs :=
  c1 v1 0 3 M
set_option maxRecDepth 100000 in
theorem rs_J7_fill_53178_35_e {x : Int} {M' : am_M} {c1 : Int → Int → Int → am_M → am_Rs} (h1 : ∀ w1 w2 w3 M, c1 w1 w2 w3 M = some (x, M') → am_R none 277 bk_J7_fill_53178 1 (am_wr [38, 1, 1, 1] [w1, w2, w3]) [] SH M (am_rv (am_rk 277) x) SH M') (v1 : Int) (M : am_M) (h : XB_J7_fill_53178_35_e c1 v1 M = some (x, M')) : am_R none 277 bk_J7_fill_53178 0 (am_ent 4 [.inr (.inr (some 35)), .inl v1]) [] SH M (am_rv (am_rk 277) x) SH M' :=
  vRegion (sc := none) (sh := SH) (F := F_none) (k := 277) (bs := bk_J7_fill_53178) (r := (x, M')) (C := fun t lv st M => if t = 1 then vCt [38, 1, 1, 1] (un3 c1) lv st M else none) ok_J7_fill_53178 fs_none (fun t lv st M h => by
    split at h
    · rename_i e; subst e; exact vCt_s (un3_s h1) h
    cases h) 6 0 (am_ent 4 [.inr (.inr (some 35)), .inl v1]) [] M h
noncomputable def XL_J7_fill_53178_35_1 (k3 : am_M → am_Rs) : Nat → Int → Int → Int → am_M → am_Rs
  | 0, _, _, _, _ => none
  | n + 1, v1, v2, v3, M => XB_J7_fill_53178_35_1 (XL_J7_fill_53178_35_1 k3 n) k3 v1 v2 v3 M
theorem ls_J7_fill_53178_35_1 {x : Int} {M' : am_M} {k3 : am_M → am_Rs} (hk3 : ∀ M, k3 M = some (x, M') → am_R none 277 bk_J7_fill_53178 3 (am_wr [0, 0, 0, 0] []) [] SH M (am_rv (am_rk 277) x) SH M') : ∀ (n : Nat) (v1 v2 v3 : Int) (M : am_M), XL_J7_fill_53178_35_1 k3 n v1 v2 v3 M = some (x, M') → am_R none 277 bk_J7_fill_53178 1 (am_wr [38, 1, 1, 1] [v1, v2, v3]) [] SH M (am_rv (am_rk 277) x) SH M'
  | 0, v1, v2, v3, M, h => by cases h
  | n + 1, v1, v2, v3, M, h => rs_J7_fill_53178_35_1 (ls_J7_fill_53178_35_1 hk3 n) hk3 v1 v2 v3 M h
noncomputable def X_J7_fill_53178_35 (v1 : Int) (M : am_M) : am_Rs := XB_J7_fill_53178_35_e (XL_J7_fill_53178_35_1 (XB_J7_fill_53178_35_3) 1000) v1 M
theorem dc_J7_fill_53178_35 (v1 : Int) (M M' : am_M) (x : Int) (h : X_J7_fill_53178_35 v1 M = some (x, M')) : am_Calls 277 [.inr (.inr (some 35)), .inl v1] SH M (am_rv (am_rk 277) x) SH M' :=
  am_enter pn_J7_fill_53178 ml_J7_fill_53178 rfl (Nat.le_of_ble_eq_true rfl) ⟨Nat.le_refl _, Nat.le_refl _⟩ (rs_J7_fill_53178_35_e (ls_J7_fill_53178_35_1 (rs_J7_fill_53178_35_3) 1000) v1 M h)
noncomputable def F_X8_land_0 : Nat → List am_V → am_M → am_Rs := fun k as M => if k = 13 then (match as with
  | [.inr (.inr (some 14)), .inl a1, .inl a2, .inl a3] => X_X1_begin_14 a1 a2 a3 M
  | _ => none) else if k = 31 then (match as with
  | [.inr (.inr (some 11)), .inr (.inr (some 8))] => X_X2_takeFrom_11_8 M
  | _ => none) else if k = 73 then (match as with
  | [.inr (.inr (some 7)), .inl a1] => X_X5_read_7 a1 M
  | _ => none) else if k = 81 then (match as with
  | [.inr (.inr (some 4)), .inl a1] => X_X6_isNumber_4 a1 M
  | _ => none) else if k = 82 then (match as with
  | [.inr (.inr (some 4)), .inl a1] => X_X6_isThere_4 a1 M
  | _ => none) else if k = 154 then (match as with
  | [.inr (.inr (some 0)), .inl a1] => X_X8_find_0 a1 M
  | _ => none) else if k = 277 then (match as with
  | [.inr (.inr (some 35)), .inl a1] => X_J7_fill_53178_35 a1 M
  | _ => none) else none
theorem fs_X8_land_0 : am_FS SH F_X8_land_0 := by
  intro k as M x M' h
  unfold F_X8_land_0 at h
  split at h
  · rename_i hk; subst hk
    split at h
    · exact dc_X1_begin_14 _ _ _ _ _ _ h
    · cases h
  split at h
  · rename_i hk; subst hk
    split at h
    · exact dc_X2_takeFrom_11_8 _ _ _ h
    · cases h
  split at h
  · rename_i hk; subst hk
    split at h
    · exact dc_X5_read_7 _ _ _ _ h
    · cases h
  split at h
  · rename_i hk; subst hk
    split at h
    · exact dc_X6_isNumber_4 _ _ _ _ h
    · cases h
  split at h
  · rename_i hk; subst hk
    split at h
    · exact dc_X6_isThere_4 _ _ _ _ h
    · cases h
  split at h
  · rename_i hk; subst hk
    split at h
    · exact dc_X8_find_0 _ _ _ _ h
    · cases h
  split at h
  · rename_i hk; subst hk
    split at h
    · exact dc_J7_fill_53178_35 _ _ _ _ h
    · cases h
  cases h
noncomputable def X_X8_land_0 (v1 : Int) (M : am_M) : am_Rs :=
  (X_X6_isNumber_4 v1 M).bind fun z1 =>
  if wI z1.1 = 0 then
   some ((-1), z1.2)
  else (X_X6_isThere_4 v1 z1.2).bind fun z2 =>
  if wI z2.1 = 0 then
   (X_X8_find_0 1 z2.2).bind fun z3 =>
   some (z3.1, z3.2)
  else (X_X5_read_7 v1 z2.2).bind fun z3 =>
  if wI z3.1 = (-9) then
   (X_X2_takeFrom_11_8 z3.2).bind fun z4 =>
   (X_X1_begin_14 (z4.2 7 1) (z4.2 7 2) (z4.2 7 3) z4.2).bind fun z5 =>
   (X_J7_fill_53178_35 (-1) z5.2).bind fun z6 =>
   some (z6.2 11 0, z6.2)
  else some ((-4), z3.2)
set_option maxRecDepth 100000 in
theorem dc_X8_land_0 (v1 : Int) (M M' : am_M) (x : Int) (h : X_X8_land_0 v1 M = some (x, M')) : am_Calls 115 [.inr (.inr (some 0)), .inl v1] SH M (am_rv (am_rk 115) x) SH M' :=
  vCall (F := F_X8_land_0) (C := fun _ _ _ _ => none) (fu := 9) ok_X8_land pn_X8_land ml_X8_land rfl (Nat.le_of_ble_eq_true rfl) fs_X8_land_0 (fun _ _ _ _ h => by cases h) h
noncomputable def X_X2_has_11 (v1 : Int) (M : am_M) : am_Rs :=
  if wI v1 < 0 then
   some (0, M)
  else if wI v1 < wI (M 11 0) then
   some (1, M)
  else some (0, M)
set_option maxRecDepth 100000 in
theorem dc_X2_has_11 (v1 : Int) (M M' : am_M) (x : Int) (h : X_X2_has_11 v1 M = some (x, M')) : am_Calls 33 [.inr (.inr (some 11)), .inl v1] SH M (am_rv (am_rk 33) x) SH M' :=
  vCall (F := F_none) (C := fun _ _ _ _ => none) (fu := 7) ok_X2_has pn_X2_has ml_X2_has rfl (Nat.le_of_ble_eq_true rfl) fs_none (fun _ _ _ _ h => by cases h) h
noncomputable def X_X1_borderAhead_14 (v1 : Int) (M : am_M) : am_Rs :=
  if wI v1 < 0 then
   some (0, M)
  else if 40 < wI v1 then
   some (0, M)
  else if 0 ≤ wI v1 ∧ wI v1 < 41 then
  some (M 17 (wI v1).toNat, M)
  else none
set_option maxRecDepth 100000 in
theorem dc_X1_borderAhead_14 (v1 : Int) (M M' : am_M) (x : Int) (h : X_X1_borderAhead_14 v1 M = some (x, M')) : am_Calls 21 [.inr (.inr (some 14)), .inl v1] SH M (am_rv (am_rk 21) x) SH M' :=
  vCall (F := F_none) (C := fun _ _ _ _ => none) (fu := 7) ok_X1_borderAhead pn_X1_borderAhead ml_X1_borderAhead rfl (Nat.le_of_ble_eq_true rfl) fs_none (fun _ _ _ _ h => by cases h) h
noncomputable def X_X2_crownOf (v0 v1 : Int) (M : am_M) : am_Rs :=
  if wI v0 < wI v1 then
   some (0, M)
  else some (1, M)
set_option maxRecDepth 100000 in
theorem dc_X2_crownOf (v0 v1 : Int) (M M' : am_M) (x : Int) (h : X_X2_crownOf v0 v1 M = some (x, M')) : am_Calls 39 [.inl v0, .inl v1] SH M (am_rv (am_rk 39) x) SH M' :=
  vCall (F := F_none) (C := fun _ _ _ _ => none) (fu := 6) ok_X2_crownOf pn_X2_crownOf ml_X2_crownOf rfl (Nat.le_of_ble_eq_true rfl) fs_none (fun _ _ _ _ h => by cases h) h
noncomputable def F_X1_changesOf_14 : Nat → List am_V → am_M → am_Rs := fun k as M => if k = 21 then (match as with
  | [.inr (.inr (some 14)), .inl a1] => X_X1_borderAhead_14 a1 M
  | _ => none) else if k = 39 then (match as with
  | [.inl a0, .inl a1] => X_X2_crownOf a0 a1 M
  | _ => none) else none
theorem fs_X1_changesOf_14 : am_FS SH F_X1_changesOf_14 := by
  intro k as M x M' h
  unfold F_X1_changesOf_14 at h
  split at h
  · rename_i hk; subst hk
    split at h
    · exact dc_X1_borderAhead_14 _ _ _ _ h
    · cases h
  split at h
  · rename_i hk; subst hk
    split at h
    · exact dc_X2_crownOf _ _ _ _ _ h
    · cases h
  cases h
noncomputable def XB_X1_changesOf_14_1 (c1 : Int → Int → Int → am_M → am_Rs) (c5 : Int → am_M → am_Rs) (v1 v2 v3 : Int) (M : am_M) : am_Rs :=
  if wI v3 < wI (M 14 0) then
   (X_X1_borderAhead_14 v3 M).bind fun z1 =>
   (X_X2_crownOf v1 z1.1 z1.2).bind fun z2 =>
   (X_X1_borderAhead_14 (v3 + 1) z2.2).bind fun z3 =>
   (X_X2_crownOf v1 z3.1 z3.2).bind fun z4 =>
   if wI z2.1 = wI z4.1 then
    c1 v1 v2 (v3 + 1) z4.2
   else c1 v1 (v2 + 1) (v3 + 1) z4.2
  else c5 v2 M
set_option maxRecDepth 100000 in
theorem rs_X1_changesOf_14_1 {x : Int} {M' : am_M} {c1 : Int → Int → Int → am_M → am_Rs} {c5 : Int → am_M → am_Rs} (h1 : ∀ w1 w2 w3 M, c1 w1 w2 w3 M = some (x, M') → am_R none 23 bk_X1_changesOf 1 (am_wr [17, 1, 1, 1, 0] [w1, w2, w3]) [] SH M (am_rv (am_rk 23) x) SH M') (h5 : ∀ w2 M, c5 w2 M = some (x, M') → am_R none 23 bk_X1_changesOf 5 (am_wr [0, 0, 1, 0, 0] [w2]) [] SH M (am_rv (am_rk 23) x) SH M') (v1 v2 v3 : Int) (M : am_M) (h : XB_X1_changesOf_14_1 c1 c5 v1 v2 v3 M = some (x, M')) : am_R none 23 bk_X1_changesOf 1 (am_wr [17, 1, 1, 1, 0] [v1, v2, v3]) [] SH M (am_rv (am_rk 23) x) SH M' :=
  vRegion (sc := none) (sh := SH) (F := F_X1_changesOf_14) (k := 23) (bs := bk_X1_changesOf) (r := (x, M')) (C := fun t lv st M => if t = 1 then vCt [17, 1, 1, 1, 0] (un3 c1) lv st M else if t = 5 then vCt [0, 0, 1, 0, 0] (un1 c5) lv st M else none) ok_X1_changesOf fs_X1_changesOf_14 (fun t lv st M h => by
    split at h
    · rename_i e; subst e; exact vCt_s (un3_s h1) h
    split at h
    · rename_i e; subst e; exact vCt_s (un1_s h5) h
    cases h) 8 1 (am_wr [17, 1, 1, 1, 0] [v1, v2, v3]) [] M h
noncomputable def XB_X1_changesOf_14_5 (v2 : Int) (M : am_M) : am_Rs :=
  some (v2, M)
set_option maxRecDepth 100000 in
theorem rs_X1_changesOf_14_5 {x : Int} {M' : am_M} (v2 : Int) (M : am_M) (h : XB_X1_changesOf_14_5 v2 M = some (x, M')) : am_R none 23 bk_X1_changesOf 5 (am_wr [0, 0, 1, 0, 0] [v2]) [] SH M (am_rv (am_rk 23) x) SH M' :=
  vRegion (sc := none) (sh := SH) (F := F_X1_changesOf_14) (k := 23) (bs := bk_X1_changesOf) (r := (x, M')) (C := fun t lv st M => none) ok_X1_changesOf fs_X1_changesOf_14 (fun t lv st M h => by
    cases h) 8 5 (am_wr [0, 0, 1, 0, 0] [v2]) [] M h
noncomputable def XB_X1_changesOf_14_e (c1 : Int → Int → Int → am_M → am_Rs) (v1 : Int) (M : am_M) : am_Rs :=
  c1 v1 0 0 M
set_option maxRecDepth 100000 in
theorem rs_X1_changesOf_14_e {x : Int} {M' : am_M} {c1 : Int → Int → Int → am_M → am_Rs} (h1 : ∀ w1 w2 w3 M, c1 w1 w2 w3 M = some (x, M') → am_R none 23 bk_X1_changesOf 1 (am_wr [17, 1, 1, 1, 0] [w1, w2, w3]) [] SH M (am_rv (am_rk 23) x) SH M') (v1 : Int) (M : am_M) (h : XB_X1_changesOf_14_e c1 v1 M = some (x, M')) : am_R none 23 bk_X1_changesOf 0 (am_ent 5 [.inr (.inr (some 14)), .inl v1]) [] SH M (am_rv (am_rk 23) x) SH M' :=
  vRegion (sc := none) (sh := SH) (F := F_X1_changesOf_14) (k := 23) (bs := bk_X1_changesOf) (r := (x, M')) (C := fun t lv st M => if t = 1 then vCt [17, 1, 1, 1, 0] (un3 c1) lv st M else none) ok_X1_changesOf fs_X1_changesOf_14 (fun t lv st M h => by
    split at h
    · rename_i e; subst e; exact vCt_s (un3_s h1) h
    cases h) 8 0 (am_ent 5 [.inr (.inr (some 14)), .inl v1]) [] M h
noncomputable def XL_X1_changesOf_14_1 (k5 : Int → am_M → am_Rs) : Nat → Int → Int → Int → am_M → am_Rs
  | 0, _, _, _, _ => none
  | n + 1, v1, v2, v3, M => XB_X1_changesOf_14_1 (XL_X1_changesOf_14_1 k5 n) k5 v1 v2 v3 M
theorem ls_X1_changesOf_14_1 {x : Int} {M' : am_M} {k5 : Int → am_M → am_Rs} (hk5 : ∀ w2 M, k5 w2 M = some (x, M') → am_R none 23 bk_X1_changesOf 5 (am_wr [0, 0, 1, 0, 0] [w2]) [] SH M (am_rv (am_rk 23) x) SH M') : ∀ (n : Nat) (v1 v2 v3 : Int) (M : am_M), XL_X1_changesOf_14_1 k5 n v1 v2 v3 M = some (x, M') → am_R none 23 bk_X1_changesOf 1 (am_wr [17, 1, 1, 1, 0] [v1, v2, v3]) [] SH M (am_rv (am_rk 23) x) SH M'
  | 0, v1, v2, v3, M, h => by cases h
  | n + 1, v1, v2, v3, M, h => rs_X1_changesOf_14_1 (ls_X1_changesOf_14_1 hk5 n) hk5 v1 v2 v3 M h
noncomputable def X_X1_changesOf_14 (v1 : Int) (M : am_M) : am_Rs := XB_X1_changesOf_14_e (XL_X1_changesOf_14_1 (XB_X1_changesOf_14_5) 1000) v1 M
theorem dc_X1_changesOf_14 (v1 : Int) (M M' : am_M) (x : Int) (h : X_X1_changesOf_14 v1 M = some (x, M')) : am_Calls 23 [.inr (.inr (some 14)), .inl v1] SH M (am_rv (am_rk 23) x) SH M' :=
  am_enter pn_X1_changesOf ml_X1_changesOf rfl (Nat.le_of_ble_eq_true rfl) ⟨Nat.le_refl _, Nat.le_refl _⟩ (rs_X1_changesOf_14_e (ls_X1_changesOf_14_1 (rs_X1_changesOf_14_5) 1000) v1 M h)
noncomputable def X_X1_slotOf (v0 v1 v2 : Int) (M : am_M) : am_Rs :=
  some ((((v0 * 12) + v1) * 2) + v2, M)
set_option maxRecDepth 100000 in
theorem dc_X1_slotOf (v0 v1 v2 : Int) (M M' : am_M) (x : Int) (h : X_X1_slotOf v0 v1 v2 M = some (x, M')) : am_Calls 19 [.inl v0, .inl v1, .inl v2] SH M (am_rv (am_rk 19) x) SH M' :=
  vCall (F := F_none) (C := fun _ _ _ _ => none) (fu := 3) ok_X1_slotOf pn_X1_slotOf ml_X1_slotOf rfl (Nat.le_of_ble_eq_true rfl) fs_none (fun _ _ _ _ h => by cases h) h
noncomputable def F_X1_paidBy_14 : Nat → List am_V → am_M → am_Rs := fun k as M => if k = 19 then (match as with
  | [.inl a0, .inl a1, .inl a2] => X_X1_slotOf a0 a1 a2 M
  | _ => none) else none
theorem fs_X1_paidBy_14 : am_FS SH F_X1_paidBy_14 := by
  intro k as M x M' h
  unfold F_X1_paidBy_14 at h
  split at h
  · rename_i hk; subst hk
    split at h
    · exact dc_X1_slotOf _ _ _ _ _ _ h
    · cases h
  cases h
noncomputable def XB_X1_paidBy_14_1 (c1 : Int → Int → Int → Int → am_M → am_Rs) (c6 : Int → am_M → am_Rs) (v1 v2 v3 v4 : Int) (M : am_M) : am_Rs :=
  if wI v4 < wI ((wI (M 14 0)).tdiv 10) then
   (X_X1_slotOf v4 v1 v2 M).bind fun z1 =>
   if wI z1.1 < 0 then
    c1 v1 v2 v3 (v4 + 1) z1.2
   else if wI z1.1 < 96 then
    if 0 ≤ wI z1.1 ∧ wI z1.1 < 96 then
    c1 v1 v2 (v3 + (z1.2 18 (wI z1.1).toNat)) (v4 + 1) z1.2
    else none
   else c1 v1 v2 v3 (v4 + 1) z1.2
  else c6 v3 M
set_option maxRecDepth 100000 in
theorem rs_X1_paidBy_14_1 {x : Int} {M' : am_M} {c1 : Int → Int → Int → Int → am_M → am_Rs} {c6 : Int → am_M → am_Rs} (h1 : ∀ w1 w2 w3 w4 M, c1 w1 w2 w3 w4 M = some (x, M') → am_R none 22 bk_X1_paidBy 1 (am_wr [17, 1, 1, 1, 1, 0] [w1, w2, w3, w4]) [] SH M (am_rv (am_rk 22) x) SH M') (h6 : ∀ w3 M, c6 w3 M = some (x, M') → am_R none 22 bk_X1_paidBy 6 (am_wr [0, 0, 0, 1, 0, 0] [w3]) [] SH M (am_rv (am_rk 22) x) SH M') (v1 v2 v3 v4 : Int) (M : am_M) (h : XB_X1_paidBy_14_1 c1 c6 v1 v2 v3 v4 M = some (x, M')) : am_R none 22 bk_X1_paidBy 1 (am_wr [17, 1, 1, 1, 1, 0] [v1, v2, v3, v4]) [] SH M (am_rv (am_rk 22) x) SH M' :=
  vRegion (sc := none) (sh := SH) (F := F_X1_paidBy_14) (k := 22) (bs := bk_X1_paidBy) (r := (x, M')) (C := fun t lv st M => if t = 1 then vCt [17, 1, 1, 1, 1, 0] (un4 c1) lv st M else if t = 6 then vCt [0, 0, 0, 1, 0, 0] (un1 c6) lv st M else none) ok_X1_paidBy fs_X1_paidBy_14 (fun t lv st M h => by
    split at h
    · rename_i e; subst e; exact vCt_s (un4_s h1) h
    split at h
    · rename_i e; subst e; exact vCt_s (un1_s h6) h
    cases h) 9 1 (am_wr [17, 1, 1, 1, 1, 0] [v1, v2, v3, v4]) [] M h
noncomputable def XB_X1_paidBy_14_6 (v3 : Int) (M : am_M) : am_Rs :=
  some (v3, M)
set_option maxRecDepth 100000 in
theorem rs_X1_paidBy_14_6 {x : Int} {M' : am_M} (v3 : Int) (M : am_M) (h : XB_X1_paidBy_14_6 v3 M = some (x, M')) : am_R none 22 bk_X1_paidBy 6 (am_wr [0, 0, 0, 1, 0, 0] [v3]) [] SH M (am_rv (am_rk 22) x) SH M' :=
  vRegion (sc := none) (sh := SH) (F := F_X1_paidBy_14) (k := 22) (bs := bk_X1_paidBy) (r := (x, M')) (C := fun t lv st M => none) ok_X1_paidBy fs_X1_paidBy_14 (fun t lv st M h => by
    cases h) 9 6 (am_wr [0, 0, 0, 1, 0, 0] [v3]) [] M h
noncomputable def XB_X1_paidBy_14_e (c1 : Int → Int → Int → Int → am_M → am_Rs) (v1 v2 : Int) (M : am_M) : am_Rs :=
  c1 v1 v2 0 0 M
set_option maxRecDepth 100000 in
theorem rs_X1_paidBy_14_e {x : Int} {M' : am_M} {c1 : Int → Int → Int → Int → am_M → am_Rs} (h1 : ∀ w1 w2 w3 w4 M, c1 w1 w2 w3 w4 M = some (x, M') → am_R none 22 bk_X1_paidBy 1 (am_wr [17, 1, 1, 1, 1, 0] [w1, w2, w3, w4]) [] SH M (am_rv (am_rk 22) x) SH M') (v1 v2 : Int) (M : am_M) (h : XB_X1_paidBy_14_e c1 v1 v2 M = some (x, M')) : am_R none 22 bk_X1_paidBy 0 (am_ent 6 [.inr (.inr (some 14)), .inl v1, .inl v2]) [] SH M (am_rv (am_rk 22) x) SH M' :=
  vRegion (sc := none) (sh := SH) (F := F_X1_paidBy_14) (k := 22) (bs := bk_X1_paidBy) (r := (x, M')) (C := fun t lv st M => if t = 1 then vCt [17, 1, 1, 1, 1, 0] (un4 c1) lv st M else none) ok_X1_paidBy fs_X1_paidBy_14 (fun t lv st M h => by
    split at h
    · rename_i e; subst e; exact vCt_s (un4_s h1) h
    cases h) 9 0 (am_ent 6 [.inr (.inr (some 14)), .inl v1, .inl v2]) [] M h
noncomputable def XL_X1_paidBy_14_1 (k6 : Int → am_M → am_Rs) : Nat → Int → Int → Int → Int → am_M → am_Rs
  | 0, _, _, _, _, _ => none
  | n + 1, v1, v2, v3, v4, M => XB_X1_paidBy_14_1 (XL_X1_paidBy_14_1 k6 n) k6 v1 v2 v3 v4 M
theorem ls_X1_paidBy_14_1 {x : Int} {M' : am_M} {k6 : Int → am_M → am_Rs} (hk6 : ∀ w3 M, k6 w3 M = some (x, M') → am_R none 22 bk_X1_paidBy 6 (am_wr [0, 0, 0, 1, 0, 0] [w3]) [] SH M (am_rv (am_rk 22) x) SH M') : ∀ (n : Nat) (v1 v2 v3 v4 : Int) (M : am_M), XL_X1_paidBy_14_1 k6 n v1 v2 v3 v4 M = some (x, M') → am_R none 22 bk_X1_paidBy 1 (am_wr [17, 1, 1, 1, 1, 0] [v1, v2, v3, v4]) [] SH M (am_rv (am_rk 22) x) SH M'
  | 0, v1, v2, v3, v4, M, h => by cases h
  | n + 1, v1, v2, v3, v4, M, h => rs_X1_paidBy_14_1 (ls_X1_paidBy_14_1 hk6 n) hk6 v1 v2 v3 v4 M h
noncomputable def X_X1_paidBy_14 (v1 v2 : Int) (M : am_M) : am_Rs := XB_X1_paidBy_14_e (XL_X1_paidBy_14_1 (XB_X1_paidBy_14_6) 1000) v1 v2 M
theorem dc_X1_paidBy_14 (v1 v2 : Int) (M M' : am_M) (x : Int) (h : X_X1_paidBy_14 v1 v2 M = some (x, M')) : am_Calls 22 [.inr (.inr (some 14)), .inl v1, .inl v2] SH M (am_rv (am_rk 22) x) SH M' :=
  am_enter pn_X1_paidBy ml_X1_paidBy rfl (Nat.le_of_ble_eq_true rfl) ⟨Nat.le_refl _, Nat.le_refl _⟩ (rs_X1_paidBy_14_e (ls_X1_paidBy_14_1 (rs_X1_paidBy_14_6) 1000) v1 v2 M h)
noncomputable def F_X2_dueOf_11 : Nat → List am_V → am_M → am_Rs := fun k as M => if k = 33 then (match as with
  | [.inr (.inr (some 11)), .inl a1] => X_X2_has_11 a1 M
  | _ => none) else none
theorem fs_X2_dueOf_11 : am_FS SH F_X2_dueOf_11 := by
  intro k as M x M' h
  unfold F_X2_dueOf_11 at h
  split at h
  · rename_i hk; subst hk
    split at h
    · exact dc_X2_has_11 _ _ _ _ h
    · cases h
  cases h
noncomputable def X_X2_dueOf_11 (v1 : Int) (M : am_M) : am_Rs :=
  (X_X2_has_11 v1 M).bind fun z1 =>
  if wI z1.1 = 0 then
   some (0, z1.2)
  else if 0 ≤ wI v1 ∧ wI v1 < 12 then
  some (z1.2 13 (wI v1).toNat, z1.2)
  else none
set_option maxRecDepth 100000 in
theorem dc_X2_dueOf_11 (v1 : Int) (M M' : am_M) (x : Int) (h : X_X2_dueOf_11 v1 M = some (x, M')) : am_Calls 36 [.inr (.inr (some 11)), .inl v1] SH M (am_rv (am_rk 36) x) SH M' :=
  vCall (F := F_X2_dueOf_11) (C := fun _ _ _ _ => none) (fu := 6) ok_X2_dueOf pn_X2_dueOf ml_X2_dueOf rfl (Nat.le_of_ble_eq_true rfl) fs_X2_dueOf_11 (fun _ _ _ _ h => by cases h) h
noncomputable def F_X2_kindOf_11 : Nat → List am_V → am_M → am_Rs := fun k as M => if k = 33 then (match as with
  | [.inr (.inr (some 11)), .inl a1] => X_X2_has_11 a1 M
  | _ => none) else none
theorem fs_X2_kindOf_11 : am_FS SH F_X2_kindOf_11 := by
  intro k as M x M' h
  unfold F_X2_kindOf_11 at h
  split at h
  · rename_i hk; subst hk
    split at h
    · exact dc_X2_has_11 _ _ _ _ h
    · cases h
  cases h
noncomputable def X_X2_kindOf_11 (v1 : Int) (M : am_M) : am_Rs :=
  (X_X2_has_11 v1 M).bind fun z1 =>
  if wI z1.1 = 0 then
   some (0, z1.2)
  else if 0 ≤ wI v1 ∧ wI v1 < 12 then
  some (z1.2 12 (wI v1).toNat, z1.2)
  else none
set_option maxRecDepth 100000 in
theorem dc_X2_kindOf_11 (v1 : Int) (M M' : am_M) (x : Int) (h : X_X2_kindOf_11 v1 M = some (x, M')) : am_Calls 35 [.inr (.inr (some 11)), .inl v1] SH M (am_rv (am_rk 35) x) SH M' :=
  vCall (F := F_X2_kindOf_11) (C := fun _ _ _ _ => none) (fu := 6) ok_X2_kindOf pn_X2_kindOf ml_X2_kindOf rfl (Nat.le_of_ble_eq_true rfl) fs_X2_kindOf_11 (fun _ _ _ _ h => by cases h) h
noncomputable def F_X8_stripFact_0 : Nat → List am_V → am_M → am_Rs := fun k as M => if k = 22 then (match as with
  | [.inr (.inr (some 14)), .inl a1, .inl a2] => X_X1_paidBy_14 a1 a2 M
  | _ => none) else if k = 23 then (match as with
  | [.inr (.inr (some 14)), .inl a1] => X_X1_changesOf_14 a1 M
  | _ => none) else if k = 35 then (match as with
  | [.inr (.inr (some 11)), .inl a1] => X_X2_kindOf_11 a1 M
  | _ => none) else if k = 36 then (match as with
  | [.inr (.inr (some 11)), .inl a1] => X_X2_dueOf_11 a1 M
  | _ => none) else if k = 39 then (match as with
  | [.inl a0, .inl a1] => X_X2_crownOf a0 a1 M
  | _ => none) else none
theorem fs_X8_stripFact_0 : am_FS SH F_X8_stripFact_0 := by
  intro k as M x M' h
  unfold F_X8_stripFact_0 at h
  split at h
  · rename_i hk; subst hk
    split at h
    · exact dc_X1_paidBy_14 _ _ _ _ _ h
    · cases h
  split at h
  · rename_i hk; subst hk
    split at h
    · exact dc_X1_changesOf_14 _ _ _ _ h
    · cases h
  split at h
  · rename_i hk; subst hk
    split at h
    · exact dc_X2_kindOf_11 _ _ _ _ h
    · cases h
  split at h
  · rename_i hk; subst hk
    split at h
    · exact dc_X2_dueOf_11 _ _ _ _ h
    · cases h
  split at h
  · rename_i hk; subst hk
    split at h
    · exact dc_X2_crownOf _ _ _ _ _ h
    · cases h
  cases h
noncomputable def X_X8_stripFact_0 (v1 v2 : Int) (M : am_M) : am_Rs :=
  if wI v2 = 0 then
   (X_X2_kindOf_11 v1 M).bind fun z1 =>
   some (z1.1, z1.2)
  else if wI v2 = 0 + 1 then
   (X_X2_dueOf_11 v1 M).bind fun z1 =>
   some (z1.1, z1.2)
  else if wI v2 = 0 + 1 + 1 then
   (X_X2_crownOf v1 (M 14 1) M).bind fun z1 =>
   some (z1.1, z1.2)
  else if wI v2 = 0 + 1 + 1 + 1 then
   (X_X1_paidBy_14 v1 0 M).bind fun z1 =>
   some (z1.1, z1.2)
  else if wI v2 = 0 + 1 + 1 + 1 + 1 then
   (X_X1_paidBy_14 v1 1 M).bind fun z1 =>
   some (z1.1, z1.2)
  else (X_X1_changesOf_14 v1 M).bind fun z1 =>
  some (z1.1, z1.2)
set_option maxRecDepth 100000 in
theorem dc_X8_stripFact_0 (v1 v2 : Int) (M M' : am_M) (x : Int) (h : X_X8_stripFact_0 v1 v2 M = some (x, M')) : am_Calls 165 [.inr (.inr (some 0)), .inl v1, .inl v2] SH M (am_rv (am_rk 165) x) SH M' :=
  vCall (F := F_X8_stripFact_0) (C := fun _ _ _ _ => none) (fu := 9) ok_X8_stripFact pn_X8_stripFact ml_X8_stripFact rfl (Nat.le_of_ble_eq_true rfl) fs_X8_stripFact_0 (fun _ _ _ _ h => by cases h) h
noncomputable def F_X8_strip_0 : Nat → List am_V → am_M → am_Rs := fun k as M => if k = 33 then (match as with
  | [.inr (.inr (some 11)), .inl a1] => X_X2_has_11 a1 M
  | _ => none) else if k = 155 then (match as with
  | [.inr (.inr (some 0)), .inl a1] => X_X8_tell_0 a1 M
  | _ => none) else if k = 165 then (match as with
  | [.inr (.inr (some 0)), .inl a1, .inl a2] => X_X8_stripFact_0 a1 a2 M
  | _ => none) else none
theorem fs_X8_strip_0 : am_FS SH F_X8_strip_0 := by
  intro k as M x M' h
  unfold F_X8_strip_0 at h
  split at h
  · rename_i hk; subst hk
    split at h
    · exact dc_X2_has_11 _ _ _ _ h
    · cases h
  split at h
  · rename_i hk; subst hk
    split at h
    · exact dc_X8_tell_0 _ _ _ _ h
    · cases h
  split at h
  · rename_i hk; subst hk
    split at h
    · exact dc_X8_stripFact_0 _ _ _ _ _ h
    · cases h
  cases h
noncomputable def X_X8_strip_0 (v1 v2 : Int) (M : am_M) : am_Rs :=
  (X_X2_has_11 v1 M).bind fun z1 =>
  if wI z1.1 = 0 then
   some ((-1), z1.2)
  else if wI v2 < 0 then
   some ((-1), z1.2)
  else if wI v2 < 6 then
   (X_X8_stripFact_0 v1 v2 z1.2).bind fun z2 =>
   (X_X8_tell_0 z2.1 z2.2).bind fun z3 =>
   some (z3.1, z3.2)
  else some ((-1), z1.2)
set_option maxRecDepth 100000 in
theorem dc_X8_strip_0 (v1 v2 : Int) (M M' : am_M) (x : Int) (h : X_X8_strip_0 v1 v2 M = some (x, M')) : am_Calls 116 [.inr (.inr (some 0)), .inl v1, .inl v2] SH M (am_rv (am_rk 116) x) SH M' :=
  vCall (F := F_X8_strip_0) (C := fun _ _ _ _ => none) (fu := 7) ok_X8_strip pn_X8_strip ml_X8_strip rfl (Nat.le_of_ble_eq_true rfl) fs_X8_strip_0 (fun _ _ _ _ h => by cases h) h
noncomputable def F_X2_isOf_11 : Nat → List am_V → am_M → am_Rs := fun k as M => if k = 35 then (match as with
  | [.inr (.inr (some 11)), .inl a1] => X_X2_kindOf_11 a1 M
  | _ => none) else none
theorem fs_X2_isOf_11 : am_FS SH F_X2_isOf_11 := by
  intro k as M x M' h
  unfold F_X2_isOf_11 at h
  split at h
  · rename_i hk; subst hk
    split at h
    · exact dc_X2_kindOf_11 _ _ _ _ h
    · cases h
  cases h
noncomputable def X_X2_isOf_11 (v1 v2 : Int) (M : am_M) : am_Rs :=
  (X_X2_kindOf_11 v1 M).bind fun z1 =>
  if wI z1.1 = wI v2 then
   some (1, z1.2)
  else if wI v2 = 0 then
   some (1, z1.2)
  else if wI z1.1 = 4 then
   if wI v2 = 1 then
    some (1, z1.2)
   else if wI z1.1 = 5 then
    if wI v2 = 2 then
     some (1, z1.2)
    else some (0, z1.2)
   else some (0, z1.2)
  else if wI z1.1 = 5 then
   if wI v2 = 2 then
    some (1, z1.2)
   else some (0, z1.2)
  else some (0, z1.2)
set_option maxRecDepth 100000 in
theorem dc_X2_isOf_11 (v1 v2 : Int) (M M' : am_M) (x : Int) (h : X_X2_isOf_11 v1 v2 M = some (x, M')) : am_Calls 37 [.inr (.inr (some 11)), .inl v1, .inl v2] SH M (am_rv (am_rk 37) x) SH M' :=
  vCall (F := F_X2_isOf_11) (C := fun _ _ _ _ => none) (fu := 11) ok_X2_isOf pn_X2_isOf ml_X2_isOf rfl (Nat.le_of_ble_eq_true rfl) fs_X2_isOf_11 (fun _ _ _ _ h => by cases h) h
noncomputable def X_X2_touches (v0 v1 : Int) (M : am_M) : am_Rs :=
  if wI v1 = wI v0 then
   some (1, M)
  else if wI v1 = wI (v0 + 1) then
   some (1, M)
  else some (0, M)
set_option maxRecDepth 100000 in
theorem dc_X2_touches (v0 v1 : Int) (M M' : am_M) (x : Int) (h : X_X2_touches v0 v1 M = some (x, M')) : am_Calls 40 [.inl v0, .inl v1] SH M (am_rv (am_rk 40) x) SH M' :=
  vCall (F := F_none) (C := fun _ _ _ _ => none) (fu := 7) ok_X2_touches pn_X2_touches ml_X2_touches rfl (Nat.le_of_ble_eq_true rfl) fs_none (fun _ _ _ _ h => by cases h) h
noncomputable def F_X2_dueTo_11 : Nat → List am_V → am_M → am_Rs := fun k as M => if k = 35 then (match as with
  | [.inr (.inr (some 11)), .inl a1] => X_X2_kindOf_11 a1 M
  | _ => none) else if k = 36 then (match as with
  | [.inr (.inr (some 11)), .inl a1] => X_X2_dueOf_11 a1 M
  | _ => none) else if k = 39 then (match as with
  | [.inl a0, .inl a1] => X_X2_crownOf a0 a1 M
  | _ => none) else if k = 40 then (match as with
  | [.inl a0, .inl a1] => X_X2_touches a0 a1 M
  | _ => none) else none
theorem fs_X2_dueTo_11 : am_FS SH F_X2_dueTo_11 := by
  intro k as M x M' h
  unfold F_X2_dueTo_11 at h
  split at h
  · rename_i hk; subst hk
    split at h
    · exact dc_X2_kindOf_11 _ _ _ _ h
    · cases h
  split at h
  · rename_i hk; subst hk
    split at h
    · exact dc_X2_dueOf_11 _ _ _ _ h
    · cases h
  split at h
  · rename_i hk; subst hk
    split at h
    · exact dc_X2_crownOf _ _ _ _ _ h
    · cases h
  split at h
  · rename_i hk; subst hk
    split at h
    · exact dc_X2_touches _ _ _ _ _ h
    · cases h
  cases h
noncomputable def X_X2_dueTo_11 (v1 v2 v3 v4 : Int) (M : am_M) : am_Rs :=
  (X_X2_kindOf_11 v2 M).bind fun z1 =>
  (X_X2_dueOf_11 v2 z1.2).bind fun z2 =>
  if wI z1.1 = 5 then
   (X_X2_touches v2 v3 z2.2).bind fun z3 =>
   if wI z3.1 = 0 then
    some (0, z3.2)
   else some ((wI (z2.1 * v4)).tdiv 2, z3.2)
  else (X_X2_crownOf v2 v3 z2.2).bind fun z3 =>
  if wI z3.1 = wI v1 then
   if wI z1.1 = 4 then
    some (2 * (z2.1 * v4), z3.2)
   else if wI z1.1 = 1 then
    some (z2.1 * v4, z3.2)
   else some (0, z3.2)
  else some (0, z3.2)
set_option maxRecDepth 100000 in
theorem dc_X2_dueTo_11 (v1 v2 v3 v4 : Int) (M M' : am_M) (x : Int) (h : X_X2_dueTo_11 v1 v2 v3 v4 M = some (x, M')) : am_Calls 43 [.inr (.inr (some 11)), .inl v1, .inl v2, .inl v3, .inl v4] SH M (am_rv (am_rk 43) x) SH M' :=
  vCall (F := F_X2_dueTo_11) (C := fun _ _ _ _ => none) (fu := 15) ok_X2_dueTo pn_X2_dueTo ml_X2_dueTo rfl (Nat.le_of_ble_eq_true rfl) fs_X2_dueTo_11 (fun _ _ _ _ h => by cases h) h
noncomputable def F_X1_dueOfBoth_14_11 : Nat → List am_V → am_M → am_Rs := fun k as M => if k = 43 then (match as with
  | [.inr (.inr (some 11)), .inl a1, .inl a2, .inl a3, .inl a4] => X_X2_dueTo_11 a1 a2 a3 a4 M
  | _ => none) else none
theorem fs_X1_dueOfBoth_14_11 : am_FS SH F_X1_dueOfBoth_14_11 := by
  intro k as M x M' h
  unfold F_X1_dueOfBoth_14_11 at h
  split at h
  · rename_i hk; subst hk
    split at h
    · exact dc_X2_dueTo_11 _ _ _ _ _ _ _ h
    · cases h
  cases h
noncomputable def X_X1_dueOfBoth_14_11 (v2 v3 : Int) (M : am_M) : am_Rs :=
  (X_X2_dueTo_11 0 v2 v3 (M 14 2) M).bind fun z1 =>
  (X_X2_dueTo_11 1 v2 v3 (z1.2 14 3) z1.2).bind fun z2 =>
  some (z1.1 + z2.1, z2.2)
set_option maxRecDepth 100000 in
theorem dc_X1_dueOfBoth_14_11 (v2 v3 : Int) (M M' : am_M) (x : Int) (h : X_X1_dueOfBoth_14_11 v2 v3 M = some (x, M')) : am_Calls 24 [.inr (.inr (some 14)), .inr (.inr (some 11)), .inl v2, .inl v3] SH M (am_rv (am_rk 24) x) SH M' :=
  vCall (F := F_X1_dueOfBoth_14_11) (C := fun _ _ _ _ => none) (fu := 3) ok_X1_dueOfBoth pn_X1_dueOfBoth ml_X1_dueOfBoth rfl (Nat.le_of_ble_eq_true rfl) fs_X1_dueOfBoth_14_11 (fun _ _ _ _ h => by cases h) h
noncomputable def F_X8_mark_0 : Nat → List am_V → am_M → am_Rs := fun k as M => if k = 24 then (match as with
  | [.inr (.inr (some 14)), .inr (.inr (some 11)), .inl a2, .inl a3] => X_X1_dueOfBoth_14_11 a2 a3 M
  | _ => none) else if k = 33 then (match as with
  | [.inr (.inr (some 11)), .inl a1] => X_X2_has_11 a1 M
  | _ => none) else if k = 37 then (match as with
  | [.inr (.inr (some 11)), .inl a1, .inl a2] => X_X2_isOf_11 a1 a2 M
  | _ => none) else if k = 40 then (match as with
  | [.inl a0, .inl a1] => X_X2_touches a0 a1 M
  | _ => none) else if k = 154 then (match as with
  | [.inr (.inr (some 0)), .inl a1] => X_X8_find_0 a1 M
  | _ => none) else none
theorem fs_X8_mark_0 : am_FS SH F_X8_mark_0 := by
  intro k as M x M' h
  unfold F_X8_mark_0 at h
  split at h
  · rename_i hk; subst hk
    split at h
    · exact dc_X1_dueOfBoth_14_11 _ _ _ _ _ h
    · cases h
  split at h
  · rename_i hk; subst hk
    split at h
    · exact dc_X2_has_11 _ _ _ _ h
    · cases h
  split at h
  · rename_i hk; subst hk
    split at h
    · exact dc_X2_isOf_11 _ _ _ _ _ h
    · cases h
  split at h
  · rename_i hk; subst hk
    split at h
    · exact dc_X2_touches _ _ _ _ _ h
    · cases h
  split at h
  · rename_i hk; subst hk
    split at h
    · exact dc_X8_find_0 _ _ _ _ h
    · cases h
  cases h
noncomputable def X_X8_mark_0 (v1 v2 : Int) (M : am_M) : am_Rs :=
  (X_X2_has_11 v1 M).bind fun z1 =>
  if wI z1.1 = 0 then
   some ((-1), z1.2)
  else if 0 < wI v2 then
   if wI v2 < 6 then
    (X_X2_isOf_11 v1 v2 z1.2).bind fun z2 =>
    if wI z2.1 = 0 then
     (X_X8_find_0 3 z2.2).bind fun z3 =>
     some (z3.1, z3.2)
    else if wI v2 = 2 then
     (X_X2_touches v1 (z2.2 14 1) z2.2).bind fun z3 =>
     if wI z3.1 = 0 then
      some (0, z3.2)
     else some (1, z3.2)
    else if wI v2 = 2 + 1 then
     if wI ((wI (z2.2 14 0)).tmod 2) = 0 then
      some (1, z2.2)
     else some (0, z2.2)
    else if wI v2 = 2 + 1 + 1 then
     (X_X1_dueOfBoth_14_11 v1 (z2.2 14 1) z2.2).bind fun z3 =>
     some ((wI z3.1).tdiv 2, z3.2)
    else (X_X1_dueOfBoth_14_11 v1 (z2.2 14 1) z2.2).bind fun z3 =>
    some (z3.1, z3.2)
   else some ((-1), z1.2)
  else some ((-1), z1.2)
set_option maxRecDepth 100000 in
theorem dc_X8_mark_0 (v1 v2 : Int) (M M' : am_M) (x : Int) (h : X_X8_mark_0 v1 v2 M = some (x, M')) : am_Calls 117 [.inr (.inr (some 0)), .inl v1, .inl v2] SH M (am_rv (am_rk 117) x) SH M' :=
  vCall (F := F_X8_mark_0) (C := fun _ _ _ _ => none) (fu := 19) ok_X8_mark pn_X8_mark ml_X8_mark rfl (Nat.le_of_ble_eq_true rfl) fs_X8_mark_0 (fun _ _ _ _ h => by cases h) h
noncomputable def X_X8_isCrown (v0 : Int) (M : am_M) : am_Rs :=
  if wI v0 < 0 then
   some (0, M)
  else if wI v0 < 2 then
   some (1, M)
  else some (0, M)
set_option maxRecDepth 100000 in
theorem dc_X8_isCrown (v0 : Int) (M M' : am_M) (x : Int) (h : X_X8_isCrown v0 M = some (x, M')) : am_Calls 159 [.inl v0] SH M (am_rv (am_rk 159) x) SH M' :=
  vCall (F := F_none) (C := fun _ _ _ _ => none) (fu := 7) ok_X8_isCrown pn_X8_isCrown ml_X8_isCrown rfl (Nat.le_of_ble_eq_true rfl) fs_none (fun _ _ _ _ h => by cases h) h
noncomputable def X_X8_hasNoLand_0 (M : am_M) : am_Rs :=
  if wI (M 11 0) = 0 then
   some (1, M)
  else some (0, M)
set_option maxRecDepth 100000 in
theorem dc_X8_hasNoLand_0 (M M' : am_M) (x : Int) (h : X_X8_hasNoLand_0 M = some (x, M')) : am_Calls 158 [.inr (.inr (some 0))] SH M (am_rv (am_rk 158) x) SH M' :=
  vCall (F := F_none) (C := fun _ _ _ _ => none) (fu := 6) ok_X8_hasNoLand pn_X8_hasNoLand ml_X8_hasNoLand rfl (Nat.le_of_ble_eq_true rfl) fs_none (fun _ _ _ _ h => by cases h) h
noncomputable def X_X1_rateOf_14 (v1 : Int) (M : am_M) : am_Rs :=
  if wI v1 = 0 then
   some (M 14 2, M)
  else some (M 14 3, M)
set_option maxRecDepth 100000 in
theorem dc_X1_rateOf_14 (v1 : Int) (M M' : am_M) (x : Int) (h : X_X1_rateOf_14 v1 M = some (x, M')) : am_Calls 15 [.inr (.inr (some 14)), .inl v1] SH M (am_rv (am_rk 15) x) SH M' :=
  vCall (F := F_none) (C := fun _ _ _ _ => none) (fu := 6) ok_X1_rateOf pn_X1_rateOf ml_X1_rateOf rfl (Nat.le_of_ble_eq_true rfl) fs_none (fun _ _ _ _ h => by cases h) h
noncomputable def X_X1_setRate_14 (v1 v2 : Int) (M : am_M) : am_Rs :=
  if wI v1 = 0 then
   some (0, (am_up M 14 2 v2))
  else some (0, (am_up M 14 3 v2))
set_option maxRecDepth 100000 in
theorem dc_X1_setRate_14 (v1 v2 : Int) (M M' : am_M) (x : Int) (h : X_X1_setRate_14 v1 v2 M = some (x, M')) : am_Calls 16 [.inr (.inr (some 14)), .inl v1, .inl v2] SH M (am_rv (am_rk 16) x) SH M' :=
  vCall (F := F_none) (C := fun _ _ _ _ => none) (fu := 6) ok_X1_setRate pn_X1_setRate ml_X1_setRate rfl (Nat.le_of_ble_eq_true rfl) fs_none (fun _ _ _ _ h => by cases h) h
noncomputable def F_X8_rate_0 : Nat → List am_V → am_M → am_Rs := fun k as M => if k = 15 then (match as with
  | [.inr (.inr (some 14)), .inl a1] => X_X1_rateOf_14 a1 M
  | _ => none) else if k = 16 then (match as with
  | [.inr (.inr (some 14)), .inl a1, .inl a2] => X_X1_setRate_14 a1 a2 M
  | _ => none) else if k = 158 then (match as with
  | [.inr (.inr (some 0))] => X_X8_hasNoLand_0 M
  | _ => none) else if k = 159 then (match as with
  | [.inl a0] => X_X8_isCrown a0 M
  | _ => none) else none
theorem fs_X8_rate_0 : am_FS SH F_X8_rate_0 := by
  intro k as M x M' h
  unfold F_X8_rate_0 at h
  split at h
  · rename_i hk; subst hk
    split at h
    · exact dc_X1_rateOf_14 _ _ _ _ h
    · cases h
  split at h
  · rename_i hk; subst hk
    split at h
    · exact dc_X1_setRate_14 _ _ _ _ _ h
    · cases h
  split at h
  · rename_i hk; subst hk
    split at h
    · exact dc_X8_hasNoLand_0 _ _ _ h
    · cases h
  split at h
  · rename_i hk; subst hk
    split at h
    · exact dc_X8_isCrown _ _ _ _ h
    · cases h
  cases h
noncomputable def X_X8_rate_0 (v1 v2 : Int) (M : am_M) : am_Rs :=
  (X_X8_isCrown v1 M).bind fun z1 =>
  if wI z1.1 = 0 then
   some ((-1), z1.2)
  else if wI v2 < 1 then
   some ((-1), z1.2)
  else if 9 < wI v2 then
   some ((-1), z1.2)
  else (X_X8_hasNoLand_0 z1.2).bind fun z2 =>
  if wI z2.1 = 0 then
   (X_X1_rateOf_14 v1 z2.2).bind fun z3 =>
   (X_X1_setRate_14 v1 v2 z3.2).bind fun z4 =>
   some (z3.1, z4.2)
  else some ((-4), z2.2)
set_option maxRecDepth 100000 in
theorem dc_X8_rate_0 (v1 v2 : Int) (M M' : am_M) (x : Int) (h : X_X8_rate_0 v1 v2 M = some (x, M')) : am_Calls 118 [.inr (.inr (some 0)), .inl v1, .inl v2] SH M (am_rv (am_rk 118) x) SH M' :=
  vCall (F := F_X8_rate_0) (C := fun _ _ _ _ => none) (fu := 9) ok_X8_rate pn_X8_rate ml_X8_rate rfl (Nat.le_of_ble_eq_true rfl) fs_X8_rate_0 (fun _ _ _ _ h => by cases h) h
noncomputable def X_J6_compare_7cf53 (v0 v1 : Int) (M : am_M) : am_Rs :=
  if wI v0 < wI v1 then
   some ((-1), M)
  else if wI v0 = wI v1 then
   some (0, M)
  else some (1, M)
set_option maxRecDepth 100000 in
theorem dc_J6_compare_7cf53 (v0 v1 : Int) (M M' : am_M) (x : Int) (h : X_J6_compare_7cf53 v0 v1 M = some (x, M')) : am_Calls 272 [.inl v0, .inl v1] SH M (am_rv (am_rk 272) x) SH M' :=
  vCall (F := F_none) (C := fun _ _ _ _ => none) (fu := 8) ok_J6_compare_7cf53 pn_J6_compare_7cf53 ml_J6_compare_7cf53 rfl (Nat.le_of_ble_eq_true rfl) fs_none (fun _ _ _ _ h => by cases h) h
noncomputable def X_X2_rudeness_11 (v1 v2 v3 : Int) (M : am_M) : am_Rs :=
  if wI v2 = 0 then
   some (0, M)
  else if wI v2 < 0 then
   if wI (v1 - 1) < 0 then
    some ((-1), M)
   else if wI (v1 - 1) < wI (M 11 0) then
    if 0 ≤ wI (v1 - 1) ∧ wI (v1 - 1) < 12 then
    if wI (M 12 (wI (v1 - 1)).toNat) = 3 then
      if wI ((wI v3).tmod 2) = 0 then
       if wI (M 12 (wI (v1 - 1)).toNat) = 2 then
        some (2, M)
       else if wI (M 12 (wI (v1 - 1)).toNat) = 5 then
        some (2, M)
       else some (1, M)
      else some ((-1), M)
     else if wI (M 12 (wI (v1 - 1)).toNat) = 2 then
      some (2, M)
     else if wI (M 12 (wI (v1 - 1)).toNat) = 5 then
      some (2, M)
     else some (1, M)
    else none
   else some ((-1), M)
  else if wI v1 < 0 then
   some ((-1), M)
  else if wI v1 < wI (M 11 0) then
   if 0 ≤ wI v1 ∧ wI v1 < 12 then
   if wI (M 12 (wI v1).toNat) = 3 then
     if wI ((wI v3).tmod 2) = 0 then
      if wI (M 12 (wI v1).toNat) = 2 then
       some (2, M)
      else if wI (M 12 (wI v1).toNat) = 5 then
       some (2, M)
      else some (1, M)
     else some ((-1), M)
    else if wI (M 12 (wI v1).toNat) = 2 then
     some (2, M)
    else if wI (M 12 (wI v1).toNat) = 5 then
     some (2, M)
    else some (1, M)
   else none
  else some ((-1), M)
set_option maxRecDepth 100000 in
theorem dc_X2_rudeness_11 (v1 v2 v3 : Int) (M M' : am_M) (x : Int) (h : X_X2_rudeness_11 v1 v2 v3 M = some (x, M')) : am_Calls 41 [.inr (.inr (some 11)), .inl v1, .inl v2, .inl v3] SH M (am_rv (am_rk 41) x) SH M' :=
  vCall (F := F_none) (C := fun _ _ _ _ => none) (fu := 18) ok_X2_rudeness pn_X2_rudeness ml_X2_rudeness rfl (Nat.le_of_ble_eq_true rfl) fs_none (fun _ _ _ _ h => by cases h) h
noncomputable def F_X2_borderAfter_11 : Nat → List am_V → am_M → am_Rs := fun k as M => if k = 41 then (match as with
  | [.inr (.inr (some 11)), .inl a1, .inl a2, .inl a3] => X_X2_rudeness_11 a1 a2 a3 M
  | _ => none) else if k = 272 then (match as with
  | [.inl a0, .inl a1] => X_J6_compare_7cf53 a0 a1 M
  | _ => none) else none
theorem fs_X2_borderAfter_11 : am_FS SH F_X2_borderAfter_11 := by
  intro k as M x M' h
  unfold F_X2_borderAfter_11 at h
  split at h
  · rename_i hk; subst hk
    split at h
    · exact dc_X2_rudeness_11 _ _ _ _ _ _ h
    · cases h
  split at h
  · rename_i hk; subst hk
    split at h
    · exact dc_J6_compare_7cf53 _ _ _ _ _ h
    · cases h
  cases h
noncomputable def X_X2_borderAfter_11 (v1 v2 v3 v4 : Int) (M : am_M) : am_Rs :=
  (X_J6_compare_7cf53 v4 v3 M).bind fun z1 =>
  (X_X2_rudeness_11 v1 z1.1 v2 z1.2).bind fun z2 =>
  if wI z2.1 = (-1) then
   some (v1, z2.2)
  else if wI (if 0 ≤ wI (v3 - v4) then v3 - v4 else 0 - (v3 - v4)) < wI z2.1 then
   some (v1, z2.2)
  else some (v1 + z1.1, z2.2)
set_option maxRecDepth 100000 in
theorem dc_X2_borderAfter_11 (v1 v2 v3 v4 : Int) (M M' : am_M) (x : Int) (h : X_X2_borderAfter_11 v1 v2 v3 v4 M = some (x, M')) : am_Calls 42 [.inr (.inr (some 11)), .inl v1, .inl v2, .inl v3, .inl v4] SH M (am_rv (am_rk 42) x) SH M' :=
  vCall (F := F_X2_borderAfter_11) (C := fun _ _ _ _ => none) (fu := 10) ok_X2_borderAfter pn_X2_borderAfter ml_X2_borderAfter rfl (Nat.le_of_ble_eq_true rfl) fs_X2_borderAfter_11 (fun _ _ _ _ h => by cases h) h
noncomputable def X_X1_isTaxDay (v0 : Int) (M : am_M) : am_Rs :=
  if wI v0 < 0 then
   some (0, M)
  else if wI v0 < 40 then
   if wI ((wI v0).tmod 10) = 9 then
    some (1, M)
   else some (0, M)
  else some (0, M)
set_option maxRecDepth 100000 in
theorem dc_X1_isTaxDay (v0 : Int) (M M' : am_M) (x : Int) (h : X_X1_isTaxDay v0 M = some (x, M')) : am_Calls 12 [.inl v0] SH M (am_rv (am_rk 12) x) SH M' :=
  vCall (F := F_none) (C := fun _ _ _ _ => none) (fu := 8) ok_X1_isTaxDay pn_X1_isTaxDay ml_X1_isTaxDay rfl (Nat.le_of_ble_eq_true rfl) fs_none (fun _ _ _ _ h => by cases h) h
noncomputable def F_X1_collect_14_11 : Nat → List am_V → am_M → am_Rs := fun k as M => if k = 15 then (match as with
  | [.inr (.inr (some 14)), .inl a1] => X_X1_rateOf_14 a1 M
  | _ => none) else if k = 19 then (match as with
  | [.inl a0, .inl a1, .inl a2] => X_X1_slotOf a0 a1 a2 M
  | _ => none) else if k = 43 then (match as with
  | [.inr (.inr (some 11)), .inl a1, .inl a2, .inl a3, .inl a4] => X_X2_dueTo_11 a1 a2 a3 a4 M
  | _ => none) else none
theorem fs_X1_collect_14_11 : am_FS SH F_X1_collect_14_11 := by
  intro k as M x M' h
  unfold F_X1_collect_14_11 at h
  split at h
  · rename_i hk; subst hk
    split at h
    · exact dc_X1_rateOf_14 _ _ _ _ h
    · cases h
  split at h
  · rename_i hk; subst hk
    split at h
    · exact dc_X1_slotOf _ _ _ _ _ _ h
    · cases h
  split at h
  · rename_i hk; subst hk
    split at h
    · exact dc_X2_dueTo_11 _ _ _ _ _ _ _ h
    · cases h
  cases h
noncomputable def XB_X1_collect_14_11_1 (c3 : Int → Int → am_M → am_Rs) (c9 : am_M → am_Rs) (v2 : Int) (M : am_M) : am_Rs :=
  if wI v2 < wI (M 11 0) then
   c3 v2 0 M
  else c9 M
set_option maxRecDepth 100000 in
theorem rs_X1_collect_14_11_1 {x : Int} {M' : am_M} {c3 : Int → Int → am_M → am_Rs} {c9 : am_M → am_Rs} (h3 : ∀ w2 w3 M, c3 w2 w3 M = some (x, M') → am_R none 18 bk_X1_collect 3 (am_wr [17, 14, 1, 1, 0] [w2, w3]) [] SH M (am_rv (am_rk 18) x) SH M') (h9 : ∀ M, c9 M = some (x, M') → am_R none 18 bk_X1_collect 9 (am_wr [0, 0, 0, 0, 0] []) [] SH M (am_rv (am_rk 18) x) SH M') (v2 : Int) (M : am_M) (h : XB_X1_collect_14_11_1 c3 c9 v2 M = some (x, M')) : am_R none 18 bk_X1_collect 1 (am_wr [17, 14, 1, 0, 0] [v2]) [] SH M (am_rv (am_rk 18) x) SH M' :=
  vRegion (sc := none) (sh := SH) (F := F_X1_collect_14_11) (k := 18) (bs := bk_X1_collect) (r := (x, M')) (C := fun t lv st M => if t = 3 then vCt [17, 14, 1, 1, 0] (un2 c3) lv st M else if t = 9 then vCt [0, 0, 0, 0, 0] (un0 c9) lv st M else none) ok_X1_collect fs_X1_collect_14_11 (fun t lv st M h => by
    split at h
    · rename_i e; subst e; exact vCt_s (un2_s h3) h
    split at h
    · rename_i e; subst e; exact vCt_s (un0_s h9) h
    cases h) 12 1 (am_wr [17, 14, 1, 0, 0] [v2]) [] M h
noncomputable def XB_X1_collect_14_11_3 (c3 : Int → Int → am_M → am_Rs) (c8 : Int → am_M → am_Rs) (v2 v3 : Int) (M : am_M) : am_Rs :=
  if wI v3 < 2 then
   (X_X1_slotOf ((wI (M 14 0)).tdiv 10) v2 v3 M).bind fun z1 =>
   if wI z1.1 < 0 then
    c3 v2 (v3 + 1) z1.2
   else if wI z1.1 < 96 then
    (X_X1_rateOf_14 v3 z1.2).bind fun z2 =>
    (X_X2_dueTo_11 v3 v2 (z1.2 14 1) z2.1 z2.2).bind fun z3 =>
    if 0 ≤ wI z1.1 ∧ wI z1.1 < 96 then
    c3 v2 (v3 + 1) (am_up z3.2 18 (wI z1.1).toNat z3.1)
    else none
   else c3 v2 (v3 + 1) z1.2
  else c8 v2 M
set_option maxRecDepth 100000 in
theorem rs_X1_collect_14_11_3 {x : Int} {M' : am_M} {c3 : Int → Int → am_M → am_Rs} {c8 : Int → am_M → am_Rs} (h3 : ∀ w2 w3 M, c3 w2 w3 M = some (x, M') → am_R none 18 bk_X1_collect 3 (am_wr [17, 14, 1, 1, 0] [w2, w3]) [] SH M (am_rv (am_rk 18) x) SH M') (h8 : ∀ w2 M, c8 w2 M = some (x, M') → am_R none 18 bk_X1_collect 8 (am_wr [17, 14, 1, 0, 0] [w2]) [] SH M (am_rv (am_rk 18) x) SH M') (v2 v3 : Int) (M : am_M) (h : XB_X1_collect_14_11_3 c3 c8 v2 v3 M = some (x, M')) : am_R none 18 bk_X1_collect 3 (am_wr [17, 14, 1, 1, 0] [v2, v3]) [] SH M (am_rv (am_rk 18) x) SH M' :=
  vRegion (sc := none) (sh := SH) (F := F_X1_collect_14_11) (k := 18) (bs := bk_X1_collect) (r := (x, M')) (C := fun t lv st M => if t = 3 then vCt [17, 14, 1, 1, 0] (un2 c3) lv st M else if t = 8 then vCt [17, 14, 1, 0, 0] (un1 c8) lv st M else none) ok_X1_collect fs_X1_collect_14_11 (fun t lv st M h => by
    split at h
    · rename_i e; subst e; exact vCt_s (un2_s h3) h
    split at h
    · rename_i e; subst e; exact vCt_s (un1_s h8) h
    cases h) 12 3 (am_wr [17, 14, 1, 1, 0] [v2, v3]) [] M h
noncomputable def XB_X1_collect_14_11_9 (M : am_M) : am_Rs :=
  some (0, M)
set_option maxRecDepth 100000 in
theorem rs_X1_collect_14_11_9 {x : Int} {M' : am_M} (M : am_M) (h : XB_X1_collect_14_11_9 M = some (x, M')) : am_R none 18 bk_X1_collect 9 (am_wr [0, 0, 0, 0, 0] []) [] SH M (am_rv (am_rk 18) x) SH M' :=
  vRegion (sc := none) (sh := SH) (F := F_X1_collect_14_11) (k := 18) (bs := bk_X1_collect) (r := (x, M')) (C := fun t lv st M => none) ok_X1_collect fs_X1_collect_14_11 (fun t lv st M h => by
    cases h) 12 9 (am_wr [0, 0, 0, 0, 0] []) [] M h
noncomputable def XB_X1_collect_14_11_8 (c1 : Int → am_M → am_Rs) (v2 : Int) (M : am_M) : am_Rs :=
  c1 (v2 + 1) M
set_option maxRecDepth 100000 in
theorem rs_X1_collect_14_11_8 {x : Int} {M' : am_M} {c1 : Int → am_M → am_Rs} (h1 : ∀ w2 M, c1 w2 M = some (x, M') → am_R none 18 bk_X1_collect 1 (am_wr [17, 14, 1, 0, 0] [w2]) [] SH M (am_rv (am_rk 18) x) SH M') (v2 : Int) (M : am_M) (h : XB_X1_collect_14_11_8 c1 v2 M = some (x, M')) : am_R none 18 bk_X1_collect 8 (am_wr [17, 14, 1, 0, 0] [v2]) [] SH M (am_rv (am_rk 18) x) SH M' :=
  vRegion (sc := none) (sh := SH) (F := F_X1_collect_14_11) (k := 18) (bs := bk_X1_collect) (r := (x, M')) (C := fun t lv st M => if t = 1 then vCt [17, 14, 1, 0, 0] (un1 c1) lv st M else none) ok_X1_collect fs_X1_collect_14_11 (fun t lv st M h => by
    split at h
    · rename_i e; subst e; exact vCt_s (un1_s h1) h
    cases h) 12 8 (am_wr [17, 14, 1, 0, 0] [v2]) [] M h
noncomputable def XB_X1_collect_14_11_e (c1 : Int → am_M → am_Rs) (M : am_M) : am_Rs :=
  c1 0 M
set_option maxRecDepth 100000 in
theorem rs_X1_collect_14_11_e {x : Int} {M' : am_M} {c1 : Int → am_M → am_Rs} (h1 : ∀ w2 M, c1 w2 M = some (x, M') → am_R none 18 bk_X1_collect 1 (am_wr [17, 14, 1, 0, 0] [w2]) [] SH M (am_rv (am_rk 18) x) SH M') (M : am_M) (h : XB_X1_collect_14_11_e c1 M = some (x, M')) : am_R none 18 bk_X1_collect 0 (am_ent 5 [.inr (.inr (some 14)), .inr (.inr (some 11))]) [] SH M (am_rv (am_rk 18) x) SH M' :=
  vRegion (sc := none) (sh := SH) (F := F_X1_collect_14_11) (k := 18) (bs := bk_X1_collect) (r := (x, M')) (C := fun t lv st M => if t = 1 then vCt [17, 14, 1, 0, 0] (un1 c1) lv st M else none) ok_X1_collect fs_X1_collect_14_11 (fun t lv st M h => by
    split at h
    · rename_i e; subst e; exact vCt_s (un1_s h1) h
    cases h) 12 0 (am_ent 5 [.inr (.inr (some 14)), .inr (.inr (some 11))]) [] M h
noncomputable def XL_X1_collect_14_11_3 (k8 : Int → am_M → am_Rs) : Nat → Int → Int → am_M → am_Rs
  | 0, _, _, _ => none
  | n + 1, v2, v3, M => XB_X1_collect_14_11_3 (XL_X1_collect_14_11_3 k8 n) k8 v2 v3 M
theorem ls_X1_collect_14_11_3 {x : Int} {M' : am_M} {k8 : Int → am_M → am_Rs} (hk8 : ∀ w2 M, k8 w2 M = some (x, M') → am_R none 18 bk_X1_collect 8 (am_wr [17, 14, 1, 0, 0] [w2]) [] SH M (am_rv (am_rk 18) x) SH M') : ∀ (n : Nat) (v2 v3 : Int) (M : am_M), XL_X1_collect_14_11_3 k8 n v2 v3 M = some (x, M') → am_R none 18 bk_X1_collect 3 (am_wr [17, 14, 1, 1, 0] [v2, v3]) [] SH M (am_rv (am_rk 18) x) SH M'
  | 0, v2, v3, M, h => by cases h
  | n + 1, v2, v3, M, h => rs_X1_collect_14_11_3 (ls_X1_collect_14_11_3 hk8 n) hk8 v2 v3 M h
noncomputable def XL_X1_collect_14_11_1 (k9 : am_M → am_Rs) : Nat → Int → am_M → am_Rs
  | 0, _, _ => none
  | n + 1, v2, M => XB_X1_collect_14_11_1 (XL_X1_collect_14_11_3 (XB_X1_collect_14_11_8 (XL_X1_collect_14_11_1 k9 n)) 1000) k9 v2 M
theorem ls_X1_collect_14_11_1 {x : Int} {M' : am_M} {k9 : am_M → am_Rs} (hk9 : ∀ M, k9 M = some (x, M') → am_R none 18 bk_X1_collect 9 (am_wr [0, 0, 0, 0, 0] []) [] SH M (am_rv (am_rk 18) x) SH M') : ∀ (n : Nat) (v2 : Int) (M : am_M), XL_X1_collect_14_11_1 k9 n v2 M = some (x, M') → am_R none 18 bk_X1_collect 1 (am_wr [17, 14, 1, 0, 0] [v2]) [] SH M (am_rv (am_rk 18) x) SH M'
  | 0, v2, M, h => by cases h
  | n + 1, v2, M, h => rs_X1_collect_14_11_1 (ls_X1_collect_14_11_3 (rs_X1_collect_14_11_8 (ls_X1_collect_14_11_1 hk9 n)) 1000) hk9 v2 M h
noncomputable def X_X1_collect_14_11 (M : am_M) : am_Rs := XB_X1_collect_14_11_e (XL_X1_collect_14_11_1 (XB_X1_collect_14_11_9) 1000) M
theorem dc_X1_collect_14_11 (M M' : am_M) (x : Int) (h : X_X1_collect_14_11 M = some (x, M')) : am_Calls 18 [.inr (.inr (some 14)), .inr (.inr (some 11))] SH M (am_rv (am_rk 18) x) SH M' :=
  am_enter pn_X1_collect ml_X1_collect rfl (Nat.le_of_ble_eq_true rfl) ⟨Nat.le_refl _, Nat.le_refl _⟩ (rs_X1_collect_14_11_e (ls_X1_collect_14_11_1 (rs_X1_collect_14_11_9) 1000) M h)
noncomputable def F_X1_pass_14_11 : Nat → List am_V → am_M → am_Rs := fun k as M => if k = 12 then (match as with
  | [.inl a0] => X_X1_isTaxDay a0 M
  | _ => none) else if k = 18 then (match as with
  | [.inr (.inr (some 14)), .inr (.inr (some 11))] => X_X1_collect_14_11 M
  | _ => none) else if k = 42 then (match as with
  | [.inr (.inr (some 11)), .inl a1, .inl a2, .inl a3, .inl a4] => X_X2_borderAfter_11 a1 a2 a3 a4 M
  | _ => none) else none
theorem fs_X1_pass_14_11 : am_FS SH F_X1_pass_14_11 := by
  intro k as M x M' h
  unfold F_X1_pass_14_11 at h
  split at h
  · rename_i hk; subst hk
    split at h
    · exact dc_X1_isTaxDay _ _ _ _ h
    · cases h
  split at h
  · rename_i hk; subst hk
    split at h
    · exact dc_X1_collect_14_11 _ _ _ h
    · cases h
  split at h
  · rename_i hk; subst hk
    split at h
    · exact dc_X2_borderAfter_11 _ _ _ _ _ _ _ h
    · cases h
  cases h
noncomputable def X_X1_pass_14_11 (v2 v3 : Int) (M : am_M) : am_Rs :=
  if wI (M 14 0) < 0 then
   some (0, M)
  else if wI (M 14 0) < 40 then
   if 0 ≤ wI (M 14 0) ∧ wI (M 14 0) < 40 then
   if 0 ≤ wI ((am_up M 15 (wI (M 14 0)).toNat v2) 14 0) ∧ wI ((am_up M 15 (wI (M 14 0)).toNat v2) 14 0) < 40 then
    (X_X2_borderAfter_11 ((am_up (am_up M 15 (wI (M 14 0)).toNat v2) 16 (wI ((am_up M 15 (wI (M 14 0)).toNat v2) 14 0)).toNat v3) 14 1) ((am_up (am_up M 15 (wI (M 14 0)).toNat v2) 16 (wI ((am_up M 15 (wI (M 14 0)).toNat v2) 14 0)).toNat v3) 14 0) v2 v3 (am_up (am_up M 15 (wI (M 14 0)).toNat v2) 16 (wI ((am_up M 15 (wI (M 14 0)).toNat v2) 14 0)).toNat v3)).bind fun z1 =>
     (X_X1_isTaxDay ((am_up z1.2 14 1 z1.1) 14 0) (am_up z1.2 14 1 z1.1)).bind fun z2 =>
     if wI z2.1 = 0 then
      if 0 ≤ wI ((am_up z2.2 14 0 ((z2.2 14 0) + 1)) 14 0) ∧ wI ((am_up z2.2 14 0 ((z2.2 14 0) + 1)) 14 0) < 41 then
      some (0, (am_up (am_up z2.2 14 0 ((z2.2 14 0) + 1)) 17 (wI ((am_up z2.2 14 0 ((z2.2 14 0) + 1)) 14 0)).toNat ((am_up z2.2 14 0 ((z2.2 14 0) + 1)) 14 1)))
      else none
     else (X_X1_collect_14_11 z2.2).bind fun z3 =>
     if 0 ≤ wI ((am_up z3.2 14 0 ((z3.2 14 0) + 1)) 14 0) ∧ wI ((am_up z3.2 14 0 ((z3.2 14 0) + 1)) 14 0) < 41 then
     some (0, (am_up (am_up z3.2 14 0 ((z3.2 14 0) + 1)) 17 (wI ((am_up z3.2 14 0 ((z3.2 14 0) + 1)) 14 0)).toNat ((am_up z3.2 14 0 ((z3.2 14 0) + 1)) 14 1)))
     else none
    else none
   else none
  else some (0, M)
set_option maxRecDepth 100000 in
theorem dc_X1_pass_14_11 (v2 v3 : Int) (M M' : am_M) (x : Int) (h : X_X1_pass_14_11 v2 v3 M = some (x, M')) : am_Calls 17 [.inr (.inr (some 14)), .inr (.inr (some 11)), .inl v2, .inl v3] SH M (am_rv (am_rk 17) x) SH M' :=
  vCall (F := F_X1_pass_14_11) (C := fun _ _ _ _ => none) (fu := 8) ok_X1_pass pn_X1_pass ml_X1_pass rfl (Nat.le_of_ble_eq_true rfl) fs_X1_pass_14_11 (fun _ _ _ _ h => by cases h) h
noncomputable def F_X8_day_0 : Nat → List am_V → am_M → am_Rs := fun k as M => if k = 17 then (match as with
  | [.inr (.inr (some 14)), .inr (.inr (some 11)), .inl a2, .inl a3] => X_X1_pass_14_11 a2 a3 M
  | _ => none) else if k = 158 then (match as with
  | [.inr (.inr (some 0))] => X_X8_hasNoLand_0 M
  | _ => none) else none
theorem fs_X8_day_0 : am_FS SH F_X8_day_0 := by
  intro k as M x M' h
  unfold F_X8_day_0 at h
  split at h
  · rename_i hk; subst hk
    split at h
    · exact dc_X1_pass_14_11 _ _ _ _ _ h
    · cases h
  split at h
  · rename_i hk; subst hk
    split at h
    · exact dc_X8_hasNoLand_0 _ _ _ h
    · cases h
  cases h
noncomputable def X_X8_day_0 (v1 v2 : Int) (M : am_M) : am_Rs :=
  if wI v1 < 0 then
   some ((-1), M)
  else if 3 < wI v1 then
   some ((-1), M)
  else if wI v2 < 0 then
   some ((-1), M)
  else if 3 < wI v2 then
   some ((-1), M)
  else (X_X8_hasNoLand_0 M).bind fun z1 =>
  if wI z1.1 = 0 then
   if wI (z1.2 14 0) < 40 then
    (X_X1_pass_14_11 v1 v2 z1.2).bind fun z2 =>
    some (z2.2 14 1, z2.2)
   else some ((-2), z1.2)
  else some ((-4), z1.2)
set_option maxRecDepth 100000 in
theorem dc_X8_day_0 (v1 v2 : Int) (M M' : am_M) (x : Int) (h : X_X8_day_0 v1 v2 M = some (x, M')) : am_Calls 119 [.inr (.inr (some 0)), .inl v1, .inl v2] SH M (am_rv (am_rk 119) x) SH M' :=
  vCall (F := F_X8_day_0) (C := fun _ _ _ _ => none) (fu := 12) ok_X8_day pn_X8_day ml_X8_day rfl (Nat.le_of_ble_eq_true rfl) fs_X8_day_0 (fun _ _ _ _ h => by cases h) h
noncomputable def F_X1_goBackTo_14 : Nat → List am_V → am_M → am_Rs := fun k as M => if k = 21 then (match as with
  | [.inr (.inr (some 14)), .inl a1] => X_X1_borderAhead_14 a1 M
  | _ => none) else none
theorem fs_X1_goBackTo_14 : am_FS SH F_X1_goBackTo_14 := by
  intro k as M x M' h
  unfold F_X1_goBackTo_14 at h
  split at h
  · rename_i hk; subst hk
    split at h
    · exact dc_X1_borderAhead_14 _ _ _ _ h
    · cases h
  cases h
noncomputable def X_X1_goBackTo_14 (v1 : Int) (M : am_M) : am_Rs :=
  if wI v1 < 0 then
   some (0, M)
  else if wI (M 14 0) < wI v1 then
   some (0, M)
  else (X_X1_borderAhead_14 v1 M).bind fun z1 =>
  some (0, (am_up (am_up z1.2 14 1 z1.1) 14 0 v1))
set_option maxRecDepth 100000 in
theorem dc_X1_goBackTo_14 (v1 : Int) (M M' : am_M) (x : Int) (h : X_X1_goBackTo_14 v1 M = some (x, M')) : am_Calls 20 [.inr (.inr (some 14)), .inl v1] SH M (am_rv (am_rk 20) x) SH M' :=
  vCall (F := F_X1_goBackTo_14) (C := fun _ _ _ _ => none) (fu := 6) ok_X1_goBackTo pn_X1_goBackTo ml_X1_goBackTo rfl (Nat.le_of_ble_eq_true rfl) fs_X1_goBackTo_14 (fun _ _ _ _ h => by cases h) h
noncomputable def F_X8_undo_0 : Nat → List am_V → am_M → am_Rs := fun k as M => if k = 20 then (match as with
  | [.inr (.inr (some 14)), .inl a1] => X_X1_goBackTo_14 a1 M
  | _ => none) else none
theorem fs_X8_undo_0 : am_FS SH F_X8_undo_0 := by
  intro k as M x M' h
  unfold F_X8_undo_0 at h
  split at h
  · rename_i hk; subst hk
    split at h
    · exact dc_X1_goBackTo_14 _ _ _ _ h
    · cases h
  cases h
noncomputable def X_X8_undo_0 (v1 : Int) (M : am_M) : am_Rs :=
  if wI v1 < 0 then
   some ((-1), M)
  else if wI (M 14 0) < wI v1 then
   some ((-1), M)
  else (X_X1_goBackTo_14 v1 M).bind fun z1 =>
  some ((M 14 0) - v1, z1.2)
set_option maxRecDepth 100000 in
theorem dc_X8_undo_0 (v1 : Int) (M M' : am_M) (x : Int) (h : X_X8_undo_0 v1 M = some (x, M')) : am_Calls 120 [.inr (.inr (some 0)), .inl v1] SH M (am_rv (am_rk 120) x) SH M' :=
  vCall (F := F_X8_undo_0) (C := fun _ _ _ _ => none) (fu := 6) ok_X8_undo pn_X8_undo ml_X8_undo rfl (Nat.le_of_ble_eq_true rfl) fs_X8_undo_0 (fun _ _ _ _ h => by cases h) h
end
