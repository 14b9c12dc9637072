noncomputable def XB_J7_fill_d0a16_39_1 (c1 : Int → Int → Int → am_M → am_Rs) (c3 : am_M → am_Rs) (v1 v3 v4 : Int) (M : am_M) : am_Rs :=
  if wI v3 < wI v4 then
   if 0 ≤ wI v3 ∧ wI v3 < 13 then
   c1 v1 (v3 + 1) v4 (am_up M 39 (wI v3).toNat v1)
   else none
  else c3 M
set_option maxRecDepth 100000 in
theorem rs_J7_fill_d0a16_39_1 {x : Int} {M' : am_M} {c1 : Int → Int → Int → am_M → am_Rs} {c3 : am_M → am_Rs} (h1 : ∀ w1 w3 w4 M, c1 w1 w3 w4 M = some (x, M') → am_R none 276 bk_J7_fill_d0a16 1 (am_wr [42, 2, 0, 1, 1] [w1, w3, w4]) [] SH M (am_rv (am_rk 276) x) SH M') (h3 : ∀ M, c3 M = some (x, M') → am_R none 276 bk_J7_fill_d0a16 3 (am_wr [0, 0, 0, 0, 0] []) [] SH M (am_rv (am_rk 276) x) SH M') (v1 v3 v4 : Int) (M : am_M) (h : XB_J7_fill_d0a16_39_1 c1 c3 v1 v3 v4 M = some (x, M')) : am_R none 276 bk_J7_fill_d0a16 1 (am_wr [42, 2, 0, 1, 1] [v1, v3, v4]) [] SH M (am_rv (am_rk 276) x) SH M' :=
  vRegion (sc := none) (sh := SH) (F := F_none) (k := 276) (bs := bk_J7_fill_d0a16) (r := (x, M')) (C := fun t lv st M => if t = 1 then vCt [42, 2, 0, 1, 1] (un3 c1) lv st M else if t = 3 then vCt [0, 0, 0, 0, 0] (un0 c3) lv st M else none) ok_J7_fill_d0a16 fs_none (fun t lv st M h => by
    split at h
    · rename_i e; subst e; exact vCt_s (un3_s h1) h
    split at h
    · rename_i e; subst e; exact vCt_s (un0_s h3) h
    cases h) 6 1 (am_wr [42, 2, 0, 1, 1] [v1, v3, v4]) [] M h
noncomputable def XB_J7_fill_d0a16_39_3 (M : am_M) : am_Rs :=
  some (0, M)
set_option maxRecDepth 100000 in
theorem rs_J7_fill_d0a16_39_3 {x : Int} {M' : am_M} (M : am_M) (h : XB_J7_fill_d0a16_39_3 M = some (x, M')) : am_R none 276 bk_J7_fill_d0a16 3 (am_wr [0, 0, 0, 0, 0] []) [] SH M (am_rv (am_rk 276) x) SH M' :=
  vRegion (sc := none) (sh := SH) (F := F_none) (k := 276) (bs := bk_J7_fill_d0a16) (r := (x, M')) (C := fun t lv st M => none) ok_J7_fill_d0a16 fs_none (fun t lv st M h => by
    cases h) 6 3 (am_wr [0, 0, 0, 0, 0] []) [] M h
noncomputable def XB_J7_fill_d0a16_39_e (c1 : Int → Int → Int → am_M → am_Rs) (v1 : Int) (M : am_M) : am_Rs :=
  c1 v1 0 13 M
set_option maxRecDepth 100000 in
theorem rs_J7_fill_d0a16_39_e {x : Int} {M' : am_M} {c1 : Int → Int → Int → am_M → am_Rs} (h1 : ∀ w1 w3 w4 M, c1 w1 w3 w4 M = some (x, M') → am_R none 276 bk_J7_fill_d0a16 1 (am_wr [42, 2, 0, 1, 1] [w1, w3, w4]) [] SH M (am_rv (am_rk 276) x) SH M') (v1 : Int) (M : am_M) (h : XB_J7_fill_d0a16_39_e c1 v1 M = some (x, M')) : am_R none 276 bk_J7_fill_d0a16 0 (am_ent 5 [.inr (.inr (some 39)), .inr (.inl v1)]) [] SH M (am_rv (am_rk 276) x) SH M' :=
  vRegion (sc := none) (sh := SH) (F := F_none) (k := 276) (bs := bk_J7_fill_d0a16) (r := (x, M')) (C := fun t lv st M => if t = 1 then vCt [42, 2, 0, 1, 1] (un3 c1) lv st M else none) ok_J7_fill_d0a16 fs_none (fun t lv st M h => by
    split at h
    · rename_i e; subst e; exact vCt_s (un3_s h1) h
    cases h) 6 0 (am_ent 5 [.inr (.inr (some 39)), .inr (.inl v1)]) [] M h
noncomputable def XL_J7_fill_d0a16_39_1 (k3 : am_M → am_Rs) : Nat → Int → Int → Int → am_M → am_Rs
  | 0, _, _, _, _ => none
  | n + 1, v1, v3, v4, M => XB_J7_fill_d0a16_39_1 (XL_J7_fill_d0a16_39_1 k3 n) k3 v1 v3 v4 M
theorem ls_J7_fill_d0a16_39_1 {x : Int} {M' : am_M} {k3 : am_M → am_Rs} (hk3 : ∀ M, k3 M = some (x, M') → am_R none 276 bk_J7_fill_d0a16 3 (am_wr [0, 0, 0, 0, 0] []) [] SH M (am_rv (am_rk 276) x) SH M') : ∀ (n : Nat) (v1 v3 v4 : Int) (M : am_M), XL_J7_fill_d0a16_39_1 k3 n v1 v3 v4 M = some (x, M') → am_R none 276 bk_J7_fill_d0a16 1 (am_wr [42, 2, 0, 1, 1] [v1, v3, v4]) [] SH M (am_rv (am_rk 276) x) SH M'
  | 0, v1, v3, v4, M, h => by cases h
  | n + 1, v1, v3, v4, M, h => rs_J7_fill_d0a16_39_1 (ls_J7_fill_d0a16_39_1 hk3 n) hk3 v1 v3 v4 M h
noncomputable def X_J7_fill_d0a16_39 (v1 : Int) (M : am_M) : am_Rs := XB_J7_fill_d0a16_39_e (XL_J7_fill_d0a16_39_1 (XB_J7_fill_d0a16_39_3) 1000) v1 M
theorem dc_J7_fill_d0a16_39 (v1 : Int) (M M' : am_M) (x : Int) (h : X_J7_fill_d0a16_39 v1 M = some (x, M')) : am_Calls 276 [.inr (.inr (some 39)), .inr (.inl v1)] SH M (am_rv (am_rk 276) x) SH M' :=
  am_enter pn_J7_fill_d0a16 ml_J7_fill_d0a16 rfl (Nat.le_of_ble_eq_true rfl) ⟨Nat.le_refl _, Nat.le_refl _⟩ (rs_J7_fill_d0a16_39_e (ls_J7_fill_d0a16_39_1 (rs_J7_fill_d0a16_39_3) 1000) v1 M h)
noncomputable def X_X4_isSlot (v0 : Int) (M : am_M) : am_Rs :=
  if wI v0 < 0 then
   some (0, M)
  else if wI v0 < 13 then
   some (1, M)
  else some (0, M)
set_option maxRecDepth 100000 in
theorem dc_X4_isSlot (v0 : Int) (M M' : am_M) (x : Int) (h : X_X4_isSlot v0 M = some (x, M')) : am_Calls 71 [.inl v0] SH M (am_rv (am_rk 71) x) SH M' :=
  vCall (F := F_none) (C := fun _ _ _ _ => none) (fu := 7) ok_X4_isSlot pn_X4_isSlot ml_X4_isSlot rfl (Nat.le_of_ble_eq_true rfl) fs_none (fun _ _ _ _ h => by cases h) h
noncomputable def XB_J7_fill_d0a16_40_1 (c1 : Int → Int → Int → am_M → am_Rs) (c3 : am_M → am_Rs) (v1 v3 v4 : Int) (M : am_M) : am_Rs :=
  if wI v3 < wI v4 then
   if 0 ≤ wI v3 ∧ wI v3 < 13 then
   c1 v1 (v3 + 1) v4 (am_up M 40 (wI v3).toNat v1)
   else none
  else c3 M
set_option maxRecDepth 100000 in
theorem rs_J7_fill_d0a16_40_1 {x : Int} {M' : am_M} {c1 : Int → Int → Int → am_M → am_Rs} {c3 : am_M → am_Rs} (h1 : ∀ w1 w3 w4 M, c1 w1 w3 w4 M = some (x, M') → am_R none 276 bk_J7_fill_d0a16 1 (am_wr [43, 2, 0, 1, 1] [w1, w3, w4]) [] SH M (am_rv (am_rk 276) x) SH M') (h3 : ∀ M, c3 M = some (x, M') → am_R none 276 bk_J7_fill_d0a16 3 (am_wr [0, 0, 0, 0, 0] []) [] SH M (am_rv (am_rk 276) x) SH M') (v1 v3 v4 : Int) (M : am_M) (h : XB_J7_fill_d0a16_40_1 c1 c3 v1 v3 v4 M = some (x, M')) : am_R none 276 bk_J7_fill_d0a16 1 (am_wr [43, 2, 0, 1, 1] [v1, v3, v4]) [] SH M (am_rv (am_rk 276) x) SH M' :=
  vRegion (sc := none) (sh := SH) (F := F_none) (k := 276) (bs := bk_J7_fill_d0a16) (r := (x, M')) (C := fun t lv st M => if t = 1 then vCt [43, 2, 0, 1, 1] (un3 c1) lv st M else if t = 3 then vCt [0, 0, 0, 0, 0] (un0 c3) lv st M else none) ok_J7_fill_d0a16 fs_none (fun t lv st M h => by
    split at h
    · rename_i e; subst e; exact vCt_s (un3_s h1) h
    split at h
    · rename_i e; subst e; exact vCt_s (un0_s h3) h
    cases h) 6 1 (am_wr [43, 2, 0, 1, 1] [v1, v3, v4]) [] M h
noncomputable def XB_J7_fill_d0a16_40_3 (M : am_M) : am_Rs :=
  some (0, M)
set_option maxRecDepth 100000 in
theorem rs_J7_fill_d0a16_40_3 {x : Int} {M' : am_M} (M : am_M) (h : XB_J7_fill_d0a16_40_3 M = some (x, M')) : am_R none 276 bk_J7_fill_d0a16 3 (am_wr [0, 0, 0, 0, 0] []) [] SH M (am_rv (am_rk 276) x) SH M' :=
  vRegion (sc := none) (sh := SH) (F := F_none) (k := 276) (bs := bk_J7_fill_d0a16) (r := (x, M')) (C := fun t lv st M => none) ok_J7_fill_d0a16 fs_none (fun t lv st M h => by
    cases h) 6 3 (am_wr [0, 0, 0, 0, 0] []) [] M h
noncomputable def XB_J7_fill_d0a16_40_e (c1 : Int → Int → Int → am_M → am_Rs) (v1 : Int) (M : am_M) : am_Rs :=
  c1 v1 0 13 M
set_option maxRecDepth 100000 in
theorem rs_J7_fill_d0a16_40_e {x : Int} {M' : am_M} {c1 : Int → Int → Int → am_M → am_Rs} (h1 : ∀ w1 w3 w4 M, c1 w1 w3 w4 M = some (x, M') → am_R none 276 bk_J7_fill_d0a16 1 (am_wr [43, 2, 0, 1, 1] [w1, w3, w4]) [] SH M (am_rv (am_rk 276) x) SH M') (v1 : Int) (M : am_M) (h : XB_J7_fill_d0a16_40_e c1 v1 M = some (x, M')) : am_R none 276 bk_J7_fill_d0a16 0 (am_ent 5 [.inr (.inr (some 40)), .inr (.inl v1)]) [] SH M (am_rv (am_rk 276) x) SH M' :=
  vRegion (sc := none) (sh := SH) (F := F_none) (k := 276) (bs := bk_J7_fill_d0a16) (r := (x, M')) (C := fun t lv st M => if t = 1 then vCt [43, 2, 0, 1, 1] (un3 c1) lv st M else none) ok_J7_fill_d0a16 fs_none (fun t lv st M h => by
    split at h
    · rename_i e; subst e; exact vCt_s (un3_s h1) h
    cases h) 6 0 (am_ent 5 [.inr (.inr (some 40)), .inr (.inl v1)]) [] M h
noncomputable def XL_J7_fill_d0a16_40_1 (k3 : am_M → am_Rs) : Nat → Int → Int → Int → am_M → am_Rs
  | 0, _, _, _, _ => none
  | n + 1, v1, v3, v4, M => XB_J7_fill_d0a16_40_1 (XL_J7_fill_d0a16_40_1 k3 n) k3 v1 v3 v4 M
theorem ls_J7_fill_d0a16_40_1 {x : Int} {M' : am_M} {k3 : am_M → am_Rs} (hk3 : ∀ M, k3 M = some (x, M') → am_R none 276 bk_J7_fill_d0a16 3 (am_wr [0, 0, 0, 0, 0] []) [] SH M (am_rv (am_rk 276) x) SH M') : ∀ (n : Nat) (v1 v3 v4 : Int) (M : am_M), XL_J7_fill_d0a16_40_1 k3 n v1 v3 v4 M = some (x, M') → am_R none 276 bk_J7_fill_d0a16 1 (am_wr [43, 2, 0, 1, 1] [v1, v3, v4]) [] SH M (am_rv (am_rk 276) x) SH M'
  | 0, v1, v3, v4, M, h => by cases h
  | n + 1, v1, v3, v4, M, h => rs_J7_fill_d0a16_40_1 (ls_J7_fill_d0a16_40_1 hk3 n) hk3 v1 v3 v4 M h
noncomputable def X_J7_fill_d0a16_40 (v1 : Int) (M : am_M) : am_Rs := XB_J7_fill_d0a16_40_e (XL_J7_fill_d0a16_40_1 (XB_J7_fill_d0a16_40_3) 1000) v1 M
theorem dc_J7_fill_d0a16_40 (v1 : Int) (M M' : am_M) (x : Int) (h : X_J7_fill_d0a16_40 v1 M = some (x, M')) : am_Calls 276 [.inr (.inr (some 40)), .inr (.inl v1)] SH M (am_rv (am_rk 276) x) SH M' :=
  am_enter pn_J7_fill_d0a16 ml_J7_fill_d0a16 rfl (Nat.le_of_ble_eq_true rfl) ⟨Nat.le_refl _, Nat.le_refl _⟩ (rs_J7_fill_d0a16_40_e (ls_J7_fill_d0a16_40_1 (rs_J7_fill_d0a16_40_3) 1000) v1 M h)
noncomputable def F_X4_passOn_36 : Nat → List am_V → am_M → am_Rs := fun k as M => if k = 68 then (match as with
  | [.inr (.inr (some 36)), .inl a1, .inl a2] => X_X4_placesBehind_36 a1 a2 M
  | _ => none) else if k = 71 then (match as with
  | [.inl a0] => X_X4_isSlot a0 M
  | _ => none) else none
theorem fs_X4_passOn_36 : am_FS SH F_X4_passOn_36 := by
  intro k as M x M' h
  unfold F_X4_passOn_36 at h
  split at h
  · rename_i hk; subst hk
    split at h
    · exact dc_X4_placesBehind_36 _ _ _ _ _ h
    · cases h
  split at h
  · rename_i hk; subst hk
    split at h
    · exact dc_X4_isSlot _ _ _ _ h
    · cases h
  cases h
noncomputable def XB_X4_passOn_36_1 (c1 : Int → Int → Int → am_M → am_Rs) (c7 : am_M → am_Rs) (v1 v3 v4 : Int) (M : am_M) : am_Rs :=
  if wI (M 11 0) < wI v4 then
   c7 M
  else (X_X4_isSlot v1 M).bind fun z1 =>
  if wI z1.1 = 0 then
   c1 v1 v3 (v4 + 1) z1.2
  else (X_X4_isSlot v4 z1.2).bind fun z2 =>
  if wI z2.1 = 0 then
   c1 v1 v3 (v4 + 1) z2.2
  else if wI (b_and_ (b_shr_ v3 v4) 1) = 0 then
   c1 v1 v3 (v4 + 1) z2.2
  else if 0 ≤ wI v4 ∧ wI v4 < 13 then
  if 0 ≤ wI v1 ∧ wI v1 < 13 then
   if 0 ≤ wI v4 ∧ wI v4 < 13 then
    c1 v1 v3 (v4 + 1) (am_up z2.2 40 (wI v4).toNat ((z2.2 40 (wI v4).toNat) + (z2.2 39 (wI v1).toNat)))
    else none
   else none
  else none
set_option maxRecDepth 100000 in
theorem rs_X4_passOn_36_1 {x : Int} {M' : am_M} {c1 : Int → Int → Int → am_M → am_Rs} {c7 : am_M → am_Rs} (h1 : ∀ w1 w3 w4 M, c1 w1 w3 w4 M = some (x, M') → am_R none 70 bk_X4_passOn 1 (am_wr [39, 1, 0, 1, 1] [w1, w3, w4]) [] SH M (am_rv (am_rk 70) x) SH M') (h7 : ∀ M, c7 M = some (x, M') → am_R none 70 bk_X4_passOn 7 (am_wr [0, 0, 0, 0, 0] []) [] SH M (am_rv (am_rk 70) x) SH M') (v1 v3 v4 : Int) (M : am_M) (h : XB_X4_passOn_36_1 c1 c7 v1 v3 v4 M = some (x, M')) : am_R none 70 bk_X4_passOn 1 (am_wr [39, 1, 0, 1, 1] [v1, v3, v4]) [] SH M (am_rv (am_rk 70) x) SH M' :=
  vRegion (sc := none) (sh := SH) (F := F_X4_passOn_36) (k := 70) (bs := bk_X4_passOn) (r := (x, M')) (C := fun t lv st M => if t = 1 then vCt [39, 1, 0, 1, 1] (un3 c1) lv st M else if t = 7 then vCt [0, 0, 0, 0, 0] (un0 c7) lv st M else none) ok_X4_passOn fs_X4_passOn_36 (fun t lv st M h => by
    split at h
    · rename_i e; subst e; exact vCt_s (un3_s h1) h
    split at h
    · rename_i e; subst e; exact vCt_s (un0_s h7) h
    cases h) 10 1 (am_wr [39, 1, 0, 1, 1] [v1, v3, v4]) [] M h
noncomputable def XB_X4_passOn_36_7 (M : am_M) : am_Rs :=
  some (0, M)
set_option maxRecDepth 100000 in
theorem rs_X4_passOn_36_7 {x : Int} {M' : am_M} (M : am_M) (h : XB_X4_passOn_36_7 M = some (x, M')) : am_R none 70 bk_X4_passOn 7 (am_wr [0, 0, 0, 0, 0] []) [] SH M (am_rv (am_rk 70) x) SH M' :=
  vRegion (sc := none) (sh := SH) (F := F_X4_passOn_36) (k := 70) (bs := bk_X4_passOn) (r := (x, M')) (C := fun t lv st M => none) ok_X4_passOn fs_X4_passOn_36 (fun t lv st M h => by
    cases h) 10 7 (am_wr [0, 0, 0, 0, 0] []) [] M h
noncomputable def XB_X4_passOn_36_e (c1 : Int → Int → Int → am_M → am_Rs) (v1 v2 : Int) (M : am_M) : am_Rs :=
  (X_X4_placesBehind_36 v1 v2 M).bind fun z1 =>
  c1 v1 z1.1 0 z1.2
set_option maxRecDepth 100000 in
theorem rs_X4_passOn_36_e {x : Int} {M' : am_M} {c1 : Int → Int → Int → am_M → am_Rs} (h1 : ∀ w1 w3 w4 M, c1 w1 w3 w4 M = some (x, M') → am_R none 70 bk_X4_passOn 1 (am_wr [39, 1, 0, 1, 1] [w1, w3, w4]) [] SH M (am_rv (am_rk 70) x) SH M') (v1 v2 : Int) (M : am_M) (h : XB_X4_passOn_36_e c1 v1 v2 M = some (x, M')) : am_R none 70 bk_X4_passOn 0 (am_ent 5 [.inr (.inr (some 36)), .inl v1, .inl v2]) [] SH M (am_rv (am_rk 70) x) SH M' :=
  vRegion (sc := none) (sh := SH) (F := F_X4_passOn_36) (k := 70) (bs := bk_X4_passOn) (r := (x, M')) (C := fun t lv st M => if t = 1 then vCt [39, 1, 0, 1, 1] (un3 c1) lv st M else none) ok_X4_passOn fs_X4_passOn_36 (fun t lv st M h => by
    split at h
    · rename_i e; subst e; exact vCt_s (un3_s h1) h
    cases h) 10 0 (am_ent 5 [.inr (.inr (some 36)), .inl v1, .inl v2]) [] M h
noncomputable def XL_X4_passOn_36_1 (k7 : am_M → am_Rs) : Nat → Int → Int → Int → am_M → am_Rs
  | 0, _, _, _, _ => none
  | n + 1, v1, v3, v4, M => XB_X4_passOn_36_1 (XL_X4_passOn_36_1 k7 n) k7 v1 v3 v4 M
theorem ls_X4_passOn_36_1 {x : Int} {M' : am_M} {k7 : am_M → am_Rs} (hk7 : ∀ M, k7 M = some (x, M') → am_R none 70 bk_X4_passOn 7 (am_wr [0, 0, 0, 0, 0] []) [] SH M (am_rv (am_rk 70) x) SH M') : ∀ (n : Nat) (v1 v3 v4 : Int) (M : am_M), XL_X4_passOn_36_1 k7 n v1 v3 v4 M = some (x, M') → am_R none 70 bk_X4_passOn 1 (am_wr [39, 1, 0, 1, 1] [v1, v3, v4]) [] SH M (am_rv (am_rk 70) x) SH M'
  | 0, v1, v3, v4, M, h => by cases h
  | n + 1, v1, v3, v4, M, h => rs_X4_passOn_36_1 (ls_X4_passOn_36_1 hk7 n) hk7 v1 v3 v4 M h
noncomputable def X_X4_passOn_36 (v1 v2 : Int) (M : am_M) : am_Rs := XB_X4_passOn_36_e (XL_X4_passOn_36_1 (XB_X4_passOn_36_7) 1000) v1 v2 M
theorem dc_X4_passOn_36 (v1 v2 : Int) (M M' : am_M) (x : Int) (h : X_X4_passOn_36 v1 v2 M = some (x, M')) : am_Calls 70 [.inr (.inr (some 36)), .inl v1, .inl v2] SH M (am_rv (am_rk 70) x) SH M' :=
  am_enter pn_X4_passOn ml_X4_passOn rfl (Nat.le_of_ble_eq_true rfl) ⟨Nat.le_refl _, Nat.le_refl _⟩ (rs_X4_passOn_36_e (ls_X4_passOn_36_1 (rs_X4_passOn_36_7) 1000) v1 v2 M h)
noncomputable def F_X4_waysTo_36 : Nat → List am_V → am_M → am_Rs := fun k as M => if k = 70 then (match as with
  | [.inr (.inr (some 36)), .inl a1, .inl a2] => X_X4_passOn_36 a1 a2 M
  | _ => none) else if k = 71 then (match as with
  | [.inl a0] => X_X4_isSlot a0 M
  | _ => none) else if k = 276 then (match as with
  | [.inr (.inr (some 39)), .inr (.inl a1)] => X_J7_fill_d0a16_39 a1 M
  | [.inr (.inr (some 40)), .inr (.inl a1)] => X_J7_fill_d0a16_40 a1 M
  | _ => none) else none
theorem fs_X4_waysTo_36 : am_FS SH F_X4_waysTo_36 := by
  intro k as M x M' h
  unfold F_X4_waysTo_36 at h
  split at h
  · rename_i hk; subst hk
    split at h
    · exact dc_X4_passOn_36 _ _ _ _ _ h
    · cases h
  split at h
  · rename_i hk; subst hk
    split at h
    · exact dc_X4_isSlot _ _ _ _ h
    · cases h
  split at h
  · rename_i hk; subst hk
    split at h
    · exact dc_J7_fill_d0a16_39 _ _ _ _ h
    · exact dc_J7_fill_d0a16_40 _ _ _ _ h
    · cases h
  cases h
noncomputable def XB_X4_waysTo_36_4 (c6 : Int → Int → Int → Int → am_M → am_Rs) (c9 : Int → am_M → am_Rs) (v1 v2 v3 : Int) (M : am_M) : am_Rs :=
  if wI v3 < wI v2 then
   (X_J7_fill_d0a16_40 0 M).bind fun z1 =>
   c6 v1 v2 v3 0 z1.2
  else c9 v1 M
set_option maxRecDepth 100000 in
theorem rs_X4_waysTo_36_4 {x : Int} {M' : am_M} {c6 : Int → Int → Int → Int → am_M → am_Rs} {c9 : Int → am_M → am_Rs} (h6 : ∀ w1 w2 w3 w4 M, c6 w1 w2 w3 w4 M = some (x, M') → am_R none 69 bk_X4_waysTo 6 (am_wr [39, 1, 1, 1, 1] [w1, w2, w3, w4]) [] SH M (am_rv (am_rk 69) x) SH M') (h9 : ∀ w1 M, c9 w1 M = some (x, M') → am_R none 69 bk_X4_waysTo 9 (am_wr [39, 1, 0, 0, 0] [w1]) [] SH M (am_rv (am_rk 69) x) SH M') (v1 v2 v3 : Int) (M : am_M) (h : XB_X4_waysTo_36_4 c6 c9 v1 v2 v3 M = some (x, M')) : am_R none 69 bk_X4_waysTo 4 (am_wr [39, 1, 1, 1, 0] [v1, v2, v3]) [] SH M (am_rv (am_rk 69) x) SH M' :=
  vRegion (sc := none) (sh := SH) (F := F_X4_waysTo_36) (k := 69) (bs := bk_X4_waysTo) (r := (x, M')) (C := fun t lv st M => if t = 6 then vCt [39, 1, 1, 1, 1] (un4 c6) lv st M else if t = 9 then vCt [39, 1, 0, 0, 0] (un1 c9) lv st M else none) ok_X4_waysTo fs_X4_waysTo_36 (fun t lv st M h => by
    split at h
    · rename_i e; subst e; exact vCt_s (un4_s h6) h
    split at h
    · rename_i e; subst e; exact vCt_s (un1_s h9) h
    cases h) 12 4 (am_wr [39, 1, 1, 1, 0] [v1, v2, v3]) [] M h
noncomputable def XB_X4_waysTo_36_6 (c6 : Int → Int → Int → Int → am_M → am_Rs) (c8 : Int → Int → Int → am_M → am_Rs) (v1 v2 v3 v4 : Int) (M : am_M) : am_Rs :=
  if wI (M 11 0) < wI v4 then
   c8 v1 v2 v3 M
  else (X_X4_passOn_36 v4 ((M 14 0) + v3) M).bind fun z1 =>
  c6 v1 v2 v3 (v4 + 1) z1.2
set_option maxRecDepth 100000 in
theorem rs_X4_waysTo_36_6 {x : Int} {M' : am_M} {c6 : Int → Int → Int → Int → am_M → am_Rs} {c8 : Int → Int → Int → am_M → am_Rs} (h6 : ∀ w1 w2 w3 w4 M, c6 w1 w2 w3 w4 M = some (x, M') → am_R none 69 bk_X4_waysTo 6 (am_wr [39, 1, 1, 1, 1] [w1, w2, w3, w4]) [] SH M (am_rv (am_rk 69) x) SH M') (h8 : ∀ w1 w2 w3 M, c8 w1 w2 w3 M = some (x, M') → am_R none 69 bk_X4_waysTo 8 (am_wr [39, 1, 1, 1, 0] [w1, w2, w3]) [] SH M (am_rv (am_rk 69) x) SH M') (v1 v2 v3 v4 : Int) (M : am_M) (h : XB_X4_waysTo_36_6 c6 c8 v1 v2 v3 v4 M = some (x, M')) : am_R none 69 bk_X4_waysTo 6 (am_wr [39, 1, 1, 1, 1] [v1, v2, v3, v4]) [] SH M (am_rv (am_rk 69) x) SH M' :=
  vRegion (sc := none) (sh := SH) (F := F_X4_waysTo_36) (k := 69) (bs := bk_X4_waysTo) (r := (x, M')) (C := fun t lv st M => if t = 6 then vCt [39, 1, 1, 1, 1] (un4 c6) lv st M else if t = 8 then vCt [39, 1, 1, 1, 0] (un3 c8) lv st M else none) ok_X4_waysTo fs_X4_waysTo_36 (fun t lv st M h => by
    split at h
    · rename_i e; subst e; exact vCt_s (un4_s h6) h
    split at h
    · rename_i e; subst e; exact vCt_s (un3_s h8) h
    cases h) 12 6 (am_wr [39, 1, 1, 1, 1] [v1, v2, v3, v4]) [] M h
noncomputable def XB_X4_waysTo_36_9 (v1 : Int) (M : am_M) : am_Rs :=
  if 0 ≤ wI v1 ∧ wI v1 < 13 then
  some (M 39 (wI v1).toNat, M)
  else none
set_option maxRecDepth 100000 in
theorem rs_X4_waysTo_36_9 {x : Int} {M' : am_M} (v1 : Int) (M : am_M) (h : XB_X4_waysTo_36_9 v1 M = some (x, M')) : am_R none 69 bk_X4_waysTo 9 (am_wr [39, 1, 0, 0, 0] [v1]) [] SH M (am_rv (am_rk 69) x) SH M' :=
  vRegion (sc := none) (sh := SH) (F := F_X4_waysTo_36) (k := 69) (bs := bk_X4_waysTo) (r := (x, M')) (C := fun t lv st M => none) ok_X4_waysTo fs_X4_waysTo_36 (fun t lv st M h => by
    cases h) 12 9 (am_wr [39, 1, 0, 0, 0] [v1]) [] M h
noncomputable def XB_X4_waysTo_36_8 (c4 : Int → Int → Int → am_M → am_Rs) (v1 v2 v3 : Int) (M : am_M) : am_Rs :=
  c4 v1 v2 (v3 + 1) (am_cpy M 40 39 0 0 13)
set_option maxRecDepth 100000 in
theorem rs_X4_waysTo_36_8 {x : Int} {M' : am_M} {c4 : Int → Int → Int → am_M → am_Rs} (h4 : ∀ w1 w2 w3 M, c4 w1 w2 w3 M = some (x, M') → am_R none 69 bk_X4_waysTo 4 (am_wr [39, 1, 1, 1, 0] [w1, w2, w3]) [] SH M (am_rv (am_rk 69) x) SH M') (v1 v2 v3 : Int) (M : am_M) (h : XB_X4_waysTo_36_8 c4 v1 v2 v3 M = some (x, M')) : am_R none 69 bk_X4_waysTo 8 (am_wr [39, 1, 1, 1, 0] [v1, v2, v3]) [] SH M (am_rv (am_rk 69) x) SH M' :=
  vRegion (sc := none) (sh := SH) (F := F_X4_waysTo_36) (k := 69) (bs := bk_X4_waysTo) (r := (x, M')) (C := fun t lv st M => if t = 4 then vCt [39, 1, 1, 1, 0] (un3 c4) lv st M else none) ok_X4_waysTo fs_X4_waysTo_36 (fun t lv st M h => by
    split at h
    · rename_i e; subst e; exact vCt_s (un3_s h4) h
    cases h) 12 8 (am_wr [39, 1, 1, 1, 0] [v1, v2, v3]) [] M h
noncomputable def XB_X4_waysTo_36_e (c4 : Int → Int → Int → am_M → am_Rs) (v1 v2 : Int) (M : am_M) : am_Rs :=
  (X_J7_fill_d0a16_39 0 M).bind fun z1 =>
  (X_X4_isSlot v1 z1.2).bind fun z2 =>
  if wI z2.1 = 0 then
   some (0, z2.2)
  else (X_X4_isSlot (z2.2 14 1) z2.2).bind fun z3 =>
  if wI z3.1 = 0 then
   some (0, z3.2)
  else if 0 ≤ wI (z3.2 14 1) ∧ wI (z3.2 14 1) < 13 then
  c4 v1 v2 0 (am_up z3.2 39 (wI (z3.2 14 1)).toNat 1)
  else none
set_option maxRecDepth 100000 in
theorem rs_X4_waysTo_36_e {x : Int} {M' : am_M} {c4 : Int → Int → Int → am_M → am_Rs} (h4 : ∀ w1 w2 w3 M, c4 w1 w2 w3 M = some (x, M') → am_R none 69 bk_X4_waysTo 4 (am_wr [39, 1, 1, 1, 0] [w1, w2, w3]) [] SH M (am_rv (am_rk 69) x) SH M') (v1 v2 : Int) (M : am_M) (h : XB_X4_waysTo_36_e c4 v1 v2 M = some (x, M')) : am_R none 69 bk_X4_waysTo 0 (am_ent 5 [.inr (.inr (some 36)), .inl v1, .inl v2]) [] SH M (am_rv (am_rk 69) x) SH M' :=
  vRegion (sc := none) (sh := SH) (F := F_X4_waysTo_36) (k := 69) (bs := bk_X4_waysTo) (r := (x, M')) (C := fun t lv st M => if t = 4 then vCt [39, 1, 1, 1, 0] (un3 c4) lv st M else none) ok_X4_waysTo fs_X4_waysTo_36 (fun t lv st M h => by
    split at h
    · rename_i e; subst e; exact vCt_s (un3_s h4) h
    cases h) 12 0 (am_ent 5 [.inr (.inr (some 36)), .inl v1, .inl v2]) [] M h
noncomputable def XL_X4_waysTo_36_6 (k8 : Int → Int → Int → am_M → am_Rs) : Nat → Int → Int → Int → Int → am_M → am_Rs
  | 0, _, _, _, _, _ => none
  | n + 1, v1, v2, v3, v4, M => XB_X4_waysTo_36_6 (XL_X4_waysTo_36_6 k8 n) k8 v1 v2 v3 v4 M
theorem ls_X4_waysTo_36_6 {x : Int} {M' : am_M} {k8 : Int → Int → Int → am_M → am_Rs} (hk8 : ∀ w1 w2 w3 M, k8 w1 w2 w3 M = some (x, M') → am_R none 69 bk_X4_waysTo 8 (am_wr [39, 1, 1, 1, 0] [w1, w2, w3]) [] SH M (am_rv (am_rk 69) x) SH M') : ∀ (n : Nat) (v1 v2 v3 v4 : Int) (M : am_M), XL_X4_waysTo_36_6 k8 n v1 v2 v3 v4 M = some (x, M') → am_R none 69 bk_X4_waysTo 6 (am_wr [39, 1, 1, 1, 1] [v1, v2, v3, v4]) [] SH M (am_rv (am_rk 69) x) SH M'
  | 0, v1, v2, v3, v4, M, h => by cases h
  | n + 1, v1, v2, v3, v4, M, h => rs_X4_waysTo_36_6 (ls_X4_waysTo_36_6 hk8 n) hk8 v1 v2 v3 v4 M h
noncomputable def XL_X4_waysTo_36_4 (k9 : Int → am_M → am_Rs) : Nat → Int → Int → Int → am_M → am_Rs
  | 0, _, _, _, _ => none
  | n + 1, v1, v2, v3, M => XB_X4_waysTo_36_4 (XL_X4_waysTo_36_6 (XB_X4_waysTo_36_8 (XL_X4_waysTo_36_4 k9 n)) 1000) k9 v1 v2 v3 M
theorem ls_X4_waysTo_36_4 {x : Int} {M' : am_M} {k9 : Int → am_M → am_Rs} (hk9 : ∀ w1 M, k9 w1 M = some (x, M') → am_R none 69 bk_X4_waysTo 9 (am_wr [39, 1, 0, 0, 0] [w1]) [] SH M (am_rv (am_rk 69) x) SH M') : ∀ (n : Nat) (v1 v2 v3 : Int) (M : am_M), XL_X4_waysTo_36_4 k9 n v1 v2 v3 M = some (x, M') → am_R none 69 bk_X4_waysTo 4 (am_wr [39, 1, 1, 1, 0] [v1, v2, v3]) [] SH M (am_rv (am_rk 69) x) SH M'
  | 0, v1, v2, v3, M, h => by cases h
  | n + 1, v1, v2, v3, M, h => rs_X4_waysTo_36_4 (ls_X4_waysTo_36_6 (rs_X4_waysTo_36_8 (ls_X4_waysTo_36_4 hk9 n)) 1000) hk9 v1 v2 v3 M h
noncomputable def X_X4_waysTo_36 (v1 v2 : Int) (M : am_M) : am_Rs := XB_X4_waysTo_36_e (XL_X4_waysTo_36_4 (XB_X4_waysTo_36_9) 1000) v1 v2 M
theorem dc_X4_waysTo_36 (v1 v2 : Int) (M M' : am_M) (x : Int) (h : X_X4_waysTo_36 v1 v2 M = some (x, M')) : am_Calls 69 [.inr (.inr (some 36)), .inl v1, .inl v2] SH M (am_rv (am_rk 69) x) SH M' :=
  am_enter pn_X4_waysTo ml_X4_waysTo rfl (Nat.le_of_ble_eq_true rfl) ⟨Nat.le_refl _, Nat.le_refl _⟩ (rs_X4_waysTo_36_e (ls_X4_waysTo_36_4 (rs_X4_waysTo_36_9) 1000) v1 v2 M h)
noncomputable def XB_X8_tellChance_0_1 (c1 : am_M → am_Rs) (c4 : am_M → am_Rs) (M : am_M) : am_Rs :=
  if 0 < wI (c_lcmp (M 0 15) 1) then
   if wI (c_lcmp ((wL (M 0 14)).tmod 2) 0) = 0 then
    c1 (am_up (am_up M 0 14 ((wL (M 0 14)).tdiv 2)) 0 15 ((wL ((am_up M 0 14 ((wL (M 0 14)).tdiv 2)) 0 15)).tdiv 2))
   else c4 M
  else c4 M
set_option maxRecDepth 100000 in
theorem rs_X8_tellChance_0_1 {x : Int} {M' : am_M} {c1 : am_M → am_Rs} {c4 : am_M → am_Rs} (h1 : ∀ M, c1 M = some (x, M') → am_R none 156 bk_X8_tellChance 1 (am_wr [3, 0, 0, 0, 0] []) [] SH M (am_rv (am_rk 156) x) SH M') (h4 : ∀ M, c4 M = some (x, M') → am_R none 156 bk_X8_tellChance 4 (am_wr [0, 0, 0, 0, 0] []) [] SH M (am_rv (am_rk 156) x) SH M') (M : am_M) (h : XB_X8_tellChance_0_1 c1 c4 M = some (x, M')) : am_R none 156 bk_X8_tellChance 1 (am_wr [3, 0, 0, 0, 0] []) [] SH M (am_rv (am_rk 156) x) SH M' :=
  vRegion (sc := none) (sh := SH) (F := F_none) (k := 156) (bs := bk_X8_tellChance) (r := (x, M')) (C := fun t lv st M => if t = 1 then vCt [3, 0, 0, 0, 0] (un0 c1) lv st M else if t = 4 then vCt [0, 0, 0, 0, 0] (un0 c4) lv st M else none) ok_X8_tellChance fs_none (fun t lv st M h => by
    split at h
    · rename_i e; subst e; exact vCt_s (un0_s h1) h
    split at h
    · rename_i e; subst e; exact vCt_s (un0_s h4) h
    cases h) 7 1 (am_wr [3, 0, 0, 0, 0] []) [] M h
noncomputable def XB_X8_tellChance_0_4 (M : am_M) : am_Rs :=
  some (1, M)
set_option maxRecDepth 100000 in
theorem rs_X8_tellChance_0_4 {x : Int} {M' : am_M} (M : am_M) (h : XB_X8_tellChance_0_4 M = some (x, M')) : am_R none 156 bk_X8_tellChance 4 (am_wr [0, 0, 0, 0, 0] []) [] SH M (am_rv (am_rk 156) x) SH M' :=
  vRegion (sc := none) (sh := SH) (F := F_none) (k := 156) (bs := bk_X8_tellChance) (r := (x, M')) (C := fun t lv st M => none) ok_X8_tellChance fs_none (fun t lv st M h => by
    cases h) 7 4 (am_wr [0, 0, 0, 0, 0] []) [] M h
noncomputable def XB_X8_tellChance_0_e (c1 : am_M → am_Rs) (v1 v3 : Int) (M : am_M) : am_Rs :=
  c1 (am_up (am_up M 0 14 v1) 0 15 v3)
set_option maxRecDepth 100000 in
theorem rs_X8_tellChance_0_e {x : Int} {M' : am_M} {c1 : am_M → am_Rs} (h1 : ∀ M, c1 M = some (x, M') → am_R none 156 bk_X8_tellChance 1 (am_wr [3, 0, 0, 0, 0] []) [] SH M (am_rv (am_rk 156) x) SH M') (v1 v3 : Int) (M : am_M) (h : XB_X8_tellChance_0_e c1 v1 v3 M = some (x, M')) : am_R none 156 bk_X8_tellChance 0 (am_ent 5 [.inr (.inr (some 0)), .inr (.inl v1), .inr (.inl v3)]) [] SH M (am_rv (am_rk 156) x) SH M' :=
  vRegion (sc := none) (sh := SH) (F := F_none) (k := 156) (bs := bk_X8_tellChance) (r := (x, M')) (C := fun t lv st M => if t = 1 then vCt [3, 0, 0, 0, 0] (un0 c1) lv st M else none) ok_X8_tellChance fs_none (fun t lv st M h => by
    split at h
    · rename_i e; subst e; exact vCt_s (un0_s h1) h
    cases h) 7 0 (am_ent 5 [.inr (.inr (some 0)), .inr (.inl v1), .inr (.inl v3)]) [] M h
noncomputable def XL_X8_tellChance_0_1 (k4 : am_M → am_Rs) : Nat → am_M → am_Rs
  | 0, _ => none
  | n + 1, M => XB_X8_tellChance_0_1 (XL_X8_tellChance_0_1 k4 n) k4 M
theorem ls_X8_tellChance_0_1 {x : Int} {M' : am_M} {k4 : am_M → am_Rs} (hk4 : ∀ M, k4 M = some (x, M') → am_R none 156 bk_X8_tellChance 4 (am_wr [0, 0, 0, 0, 0] []) [] SH M (am_rv (am_rk 156) x) SH M') : ∀ (n : Nat) (M : am_M), XL_X8_tellChance_0_1 k4 n M = some (x, M') → am_R none 156 bk_X8_tellChance 1 (am_wr [3, 0, 0, 0, 0] []) [] SH M (am_rv (am_rk 156) x) SH M'
  | 0, M, h => by cases h
  | n + 1, M, h => rs_X8_tellChance_0_1 (ls_X8_tellChance_0_1 hk4 n) hk4 M h
noncomputable def X_X8_tellChance_0 (v1 v3 : Int) (M : am_M) : am_Rs := XB_X8_tellChance_0_e (XL_X8_tellChance_0_1 (XB_X8_tellChance_0_4) 1000) v1 v3 M
theorem dc_X8_tellChance_0 (v1 v3 : Int) (M M' : am_M) (x : Int) (h : X_X8_tellChance_0 v1 v3 M = some (x, M')) : am_Calls 156 [.inr (.inr (some 0)), .inr (.inl v1), .inr (.inl v3)] SH M (am_rv (am_rk 156) x) SH M' :=
  am_enter pn_X8_tellChance ml_X8_tellChance rfl (Nat.le_of_ble_eq_true rfl) ⟨Nat.le_refl _, Nat.le_refl _⟩ (rs_X8_tellChance_0_e (ls_X8_tellChance_0_1 (rs_X8_tellChance_0_4) 1000) v1 v3 M h)
noncomputable def F_X8_ways_0 : Nat → List am_V → am_M → am_Rs := fun k as M => if k = 34 then (match as with
  | [.inr (.inr (some 11)), .inl a1] => X_X2_isPlace_11 a1 M
  | _ => none) else if k = 69 then (match as with
  | [.inr (.inr (some 36)), .inl a1, .inl a2] => X_X4_waysTo_36 a1 a2 M
  | _ => none) else if k = 156 then (match as with
  | [.inr (.inr (some 0)), .inr (.inl a1), .inr (.inl a3)] => X_X8_tellChance_0 a1 a3 M
  | _ => none) else if k = 158 then (match as with
  | [.inr (.inr (some 0))] => X_X8_hasNoLand_0 M
  | _ => none) else if k = 160 then (match as with
  | [.inl a0] => X_X8_isPlanLength a0 M
  | _ => none) else none
theorem fs_X8_ways_0 : am_FS SH F_X8_ways_0 := by
  intro k as M x M' h
  unfold F_X8_ways_0 at h
  split at h
  · rename_i hk; subst hk
    split at h
    · exact dc_X2_isPlace_11 _ _ _ _ h
    · cases h
  split at h
  · rename_i hk; subst hk
    split at h
    · exact dc_X4_waysTo_36 _ _ _ _ _ h
    · cases h
  split at h
  · rename_i hk; subst hk
    split at h
    · exact dc_X8_tellChance_0 _ _ _ _ _ h
    · cases h
  split at h
  · rename_i hk; subst hk
    split at h
    · exact dc_X8_hasNoLand_0 _ _ _ h
    · cases h
  split at h
  · rename_i hk; subst hk
    split at h
    · exact dc_X8_isPlanLength _ _ _ _ h
    · cases h
  cases h
noncomputable def X_X8_ways_0 (v1 v2 : Int) (M : am_M) : am_Rs :=
  (X_X2_isPlace_11 v1 M).bind fun z1 =>
  if wI z1.1 = 0 then
   some ((-1), z1.2)
  else (X_X8_isPlanLength v2 z1.2).bind fun z2 =>
  if wI z2.1 = 0 then
   some ((-1), z2.2)
  else (X_X8_hasNoLand_0 z2.2).bind fun z3 =>
  if wI z3.1 = 0 then
   (X_X4_waysTo_36 v1 v2 z3.2).bind fun z4 =>
   (X_X8_tellChance_0 z4.1 1 z4.2).bind fun z5 =>
   some (z5.1, z5.2)
  else some ((-4), z3.2)
set_option maxRecDepth 100000 in
theorem dc_X8_ways_0 (v1 v2 : Int) (M M' : am_M) (x : Int) (h : X_X8_ways_0 v1 v2 M = some (x, M')) : am_Calls 132 [.inr (.inr (some 0)), .inl v1, .inl v2] SH M (am_rv (am_rk 132) x) SH M' :=
  vCall (F := F_X8_ways_0) (C := fun _ _ _ _ => none) (fu := 8) ok_X8_ways pn_X8_ways ml_X8_ways rfl (Nat.le_of_ble_eq_true rfl) fs_X8_ways_0 (fun _ _ _ _ h => by cases h) h
noncomputable def F_X4_reachIn_36 : Nat → List am_V → am_M → am_Rs := fun k as M => if k = 67 then (match as with
  | [.inr (.inr (some 36)), .inl a1, .inl a2] => X_X4_spread_36 a1 a2 M
  | _ => none) else none
theorem fs_X4_reachIn_36 : am_FS SH F_X4_reachIn_36 := by
  intro k as M x M' h
  unfold F_X4_reachIn_36 at h
  split at h
  · rename_i hk; subst hk
    split at h
    · exact dc_X4_spread_36 _ _ _ _ _ h
    · cases h
  cases h
noncomputable def XB_X4_reachIn_36_1 (c1 : Int → Int → Int → am_M → am_Rs) (c3 : Int → am_M → am_Rs) (v1 v2 v3 : Int) (M : am_M) : am_Rs :=
  if wI v3 < wI v1 then
   (X_X4_spread_36 v2 ((M 14 0) + v3) M).bind fun z1 =>
   c1 v1 z1.1 (v3 + 1) z1.2
  else c3 v2 M
set_option maxRecDepth 100000 in
theorem rs_X4_reachIn_36_1 {x : Int} {M' : am_M} {c1 : Int → Int → Int → am_M → am_Rs} {c3 : Int → am_M → am_Rs} (h1 : ∀ w1 w2 w3 M, c1 w1 w2 w3 M = some (x, M') → am_R none 66 bk_X4_reachIn 1 (am_wr [39, 1, 1, 1] [w1, w2, w3]) [] SH M (am_rv (am_rk 66) x) SH M') (h3 : ∀ w2 M, c3 w2 M = some (x, M') → am_R none 66 bk_X4_reachIn 3 (am_wr [0, 0, 1, 0] [w2]) [] SH M (am_rv (am_rk 66) x) SH M') (v1 v2 v3 : Int) (M : am_M) (h : XB_X4_reachIn_36_1 c1 c3 v1 v2 v3 M = some (x, M')) : am_R none 66 bk_X4_reachIn 1 (am_wr [39, 1, 1, 1] [v1, v2, v3]) [] SH M (am_rv (am_rk 66) x) SH M' :=
  vRegion (sc := none) (sh := SH) (F := F_X4_reachIn_36) (k := 66) (bs := bk_X4_reachIn) (r := (x, M')) (C := fun t lv st M => if t = 1 then vCt [39, 1, 1, 1] (un3 c1) lv st M else if t = 3 then vCt [0, 0, 1, 0] (un1 c3) lv st M else none) ok_X4_reachIn fs_X4_reachIn_36 (fun t lv st M h => by
    split at h
    · rename_i e; subst e; exact vCt_s (un3_s h1) h
    split at h
    · rename_i e; subst e; exact vCt_s (un1_s h3) h
    cases h) 6 1 (am_wr [39, 1, 1, 1] [v1, v2, v3]) [] M h
noncomputable def XB_X4_reachIn_36_3 (v2 : Int) (M : am_M) : am_Rs :=
  some (v2, M)
set_option maxRecDepth 100000 in
theorem rs_X4_reachIn_36_3 {x : Int} {M' : am_M} (v2 : Int) (M : am_M) (h : XB_X4_reachIn_36_3 v2 M = some (x, M')) : am_R none 66 bk_X4_reachIn 3 (am_wr [0, 0, 1, 0] [v2]) [] SH M (am_rv (am_rk 66) x) SH M' :=
  vRegion (sc := none) (sh := SH) (F := F_X4_reachIn_36) (k := 66) (bs := bk_X4_reachIn) (r := (x, M')) (C := fun t lv st M => none) ok_X4_reachIn fs_X4_reachIn_36 (fun t lv st M h => by
    cases h) 6 3 (am_wr [0, 0, 1, 0] [v2]) [] M h
noncomputable def XB_X4_reachIn_36_e (c1 : Int → Int → Int → am_M → am_Rs) (v1 : Int) (M : am_M) : am_Rs :=
  c1 v1 (b_shl_ 1 (M 14 1)) 0 M
set_option maxRecDepth 100000 in
theorem rs_X4_reachIn_36_e {x : Int} {M' : am_M} {c1 : Int → Int → Int → am_M → am_Rs} (h1 : ∀ w1 w2 w3 M, c1 w1 w2 w3 M = some (x, M') → am_R none 66 bk_X4_reachIn 1 (am_wr [39, 1, 1, 1] [w1, w2, w3]) [] SH M (am_rv (am_rk 66) x) SH M') (v1 : Int) (M : am_M) (h : XB_X4_reachIn_36_e c1 v1 M = some (x, M')) : am_R none 66 bk_X4_reachIn 0 (am_ent 4 [.inr (.inr (some 36)), .inl v1]) [] SH M (am_rv (am_rk 66) x) SH M' :=
  vRegion (sc := none) (sh := SH) (F := F_X4_reachIn_36) (k := 66) (bs := bk_X4_reachIn) (r := (x, M')) (C := fun t lv st M => if t = 1 then vCt [39, 1, 1, 1] (un3 c1) lv st M else none) ok_X4_reachIn fs_X4_reachIn_36 (fun t lv st M h => by
    split at h
    · rename_i e; subst e; exact vCt_s (un3_s h1) h
    cases h) 6 0 (am_ent 4 [.inr (.inr (some 36)), .inl v1]) [] M h
noncomputable def XL_X4_reachIn_36_1 (k3 : Int → am_M → am_Rs) : Nat → Int → Int → Int → am_M → am_Rs
  | 0, _, _, _, _ => none
  | n + 1, v1, v2, v3, M => XB_X4_reachIn_36_1 (XL_X4_reachIn_36_1 k3 n) k3 v1 v2 v3 M
theorem ls_X4_reachIn_36_1 {x : Int} {M' : am_M} {k3 : Int → am_M → am_Rs} (hk3 : ∀ w2 M, k3 w2 M = some (x, M') → am_R none 66 bk_X4_reachIn 3 (am_wr [0, 0, 1, 0] [w2]) [] SH M (am_rv (am_rk 66) x) SH M') : ∀ (n : Nat) (v1 v2 v3 : Int) (M : am_M), XL_X4_reachIn_36_1 k3 n v1 v2 v3 M = some (x, M') → am_R none 66 bk_X4_reachIn 1 (am_wr [39, 1, 1, 1] [v1, v2, v3]) [] SH M (am_rv (am_rk 66) x) SH M'
  | 0, v1, v2, v3, M, h => by cases h
  | n + 1, v1, v2, v3, M, h => rs_X4_reachIn_36_1 (ls_X4_reachIn_36_1 hk3 n) hk3 v1 v2 v3 M h
noncomputable def X_X4_reachIn_36 (v1 : Int) (M : am_M) : am_Rs := XB_X4_reachIn_36_e (XL_X4_reachIn_36_1 (XB_X4_reachIn_36_3) 1000) v1 M
theorem dc_X4_reachIn_36 (v1 : Int) (M M' : am_M) (x : Int) (h : X_X4_reachIn_36 v1 M = some (x, M')) : am_Calls 66 [.inr (.inr (some 36)), .inl v1] SH M (am_rv (am_rk 66) x) SH M' :=
  am_enter pn_X4_reachIn ml_X4_reachIn rfl (Nat.le_of_ble_eq_true rfl) ⟨Nat.le_refl _, Nat.le_refl _⟩ (rs_X4_reachIn_36_e (ls_X4_reachIn_36_1 (rs_X4_reachIn_36_3) 1000) v1 M h)
noncomputable def F_X8_reach_0 : Nat → List am_V → am_M → am_Rs := fun k as M => if k = 66 then (match as with
  | [.inr (.inr (some 36)), .inl a1] => X_X4_reachIn_36 a1 M
  | _ => none) else if k = 158 then (match as with
  | [.inr (.inr (some 0))] => X_X8_hasNoLand_0 M
  | _ => none) else if k = 160 then (match as with
  | [.inl a0] => X_X8_isPlanLength a0 M
  | _ => none) else none
theorem fs_X8_reach_0 : am_FS SH F_X8_reach_0 := by
  intro k as M x M' h
  unfold F_X8_reach_0 at h
  split at h
  · rename_i hk; subst hk
    split at h
    · exact dc_X4_reachIn_36 _ _ _ _ h
    · cases h
  split at h
  · rename_i hk; subst hk
    split at h
    · exact dc_X8_hasNoLand_0 _ _ _ h
    · cases h
  split at h
  · rename_i hk; subst hk
    split at h
    · exact dc_X8_isPlanLength _ _ _ _ h
    · cases h
  cases h
noncomputable def X_X8_reach_0 (v1 : Int) (M : am_M) : am_Rs :=
  (X_X8_isPlanLength v1 M).bind fun z1 =>
  if wI z1.1 = 0 then
   some ((-1), z1.2)
  else (X_X8_hasNoLand_0 z1.2).bind fun z2 =>
  if wI z2.1 = 0 then
   (X_X4_reachIn_36 v1 z2.2).bind fun z3 =>
   some (z3.1, z3.2)
  else some ((-4), z2.2)
set_option maxRecDepth 100000 in
theorem dc_X8_reach_0 (v1 : Int) (M M' : am_M) (x : Int) (h : X_X8_reach_0 v1 M = some (x, M')) : am_Calls 133 [.inr (.inr (some 0)), .inl v1] SH M (am_rv (am_rk 133) x) SH M' :=
  vCall (F := F_X8_reach_0) (C := fun _ _ _ _ => none) (fu := 7) ok_X8_reach pn_X8_reach ml_X8_reach rfl (Nat.le_of_ble_eq_true rfl) fs_X8_reach_0 (fun _ _ _ _ h => by cases h) h
noncomputable def F_X8_least_0 : Nat → List am_V → am_M → am_Rs := fun k as M => if k = 33 then (match as with
  | [.inr (.inr (some 11)), .inl a1] => X_X2_has_11 a1 M
  | _ => none) else if k = 56 then (match as with
  | [.inr (.inr (some 36)), .inl a1] => X_X4_tollOfStrip_36 a1 M
  | _ => none) else if k = 59 then (match as with
  | [.inr (.inr (some 36)), .inl a1, .inl a2, .inl a3] => X_X4_solve_36 a1 a2 a3 M
  | _ => none) else if k = 62 then (match as with
  | [.inr (.inr (some 36)), .inl a1, .inl a2] => X_X4_costFrom_36 a1 a2 M
  | _ => none) else if k = 81 then (match as with
  | [.inr (.inr (some 1)), .inl a1] => X_X6_isNumber_1 a1 M
  | _ => none) else if k = 160 then (match as with
  | [.inl a0] => X_X8_isPlanLength a0 M
  | _ => none) else if k = 164 then (match as with
  | [.inr (.inr (some 0)), .inl a1, .inl a2] => X_X8_layPlan_0 a1 a2 M
  | _ => none) else none
theorem fs_X8_least_0 : am_FS SH F_X8_least_0 := by
  intro k as M x M' h
  unfold F_X8_least_0 at h
  split at h
  · rename_i hk; subst hk
    split at h
    · exact dc_X2_has_11 _ _ _ _ h
    · cases h
  split at h
  · rename_i hk; subst hk
    split at h
    · exact dc_X4_tollOfStrip_36 _ _ _ _ h
    · cases h
  split at h
  · rename_i hk; subst hk
    split at h
    · exact dc_X4_solve_36 _ _ _ _ _ _ h
    · cases h
  split at h
  · rename_i hk; subst hk
    split at h
    · exact dc_X4_costFrom_36 _ _ _ _ _ h
    · cases h
  split at h
  · rename_i hk; subst hk
    split at h
    · exact dc_X6_isNumber_1 _ _ _ _ h
    · cases h
  split at h
  · rename_i hk; subst hk
    split at h
    · exact dc_X8_isPlanLength _ _ _ _ h
    · cases h
  split at h
  · rename_i hk; subst hk
    split at h
    · exact dc_X8_layPlan_0 _ _ _ _ _ h
    · cases h
  cases h
noncomputable def X_X8_least_0 (v1 v2 v3 : Int) (M : am_M) : am_Rs :=
  (X_X2_has_11 v1 M).bind fun z1 =>
  if wI z1.1 = 0 then
   some ((-1), z1.2)
  else (X_X8_isPlanLength v2 z1.2).bind fun z2 =>
  if wI z2.1 = 0 then
   some ((-1), z2.2)
  else (X_X6_isNumber_1 v3 z2.2).bind fun z3 =>
  if wI z3.1 = 0 then
   some ((-1), z3.2)
  else (X_X4_tollOfStrip_36 v1 z3.2).bind fun z4 =>
  (X_X4_solve_36 v2 (-1) 0 z4.2).bind fun z5 =>
  (X_X8_layPlan_0 v2 v3 z5.2).bind fun z6 =>
  (X_X4_costFrom_36 0 (z6.2 14 1) z6.2).bind fun z7 =>
  some (z7.1, z7.2)
set_option maxRecDepth 100000 in
theorem dc_X8_least_0 (v1 v2 v3 : Int) (M M' : am_M) (x : Int) (h : X_X8_least_0 v1 v2 v3 M = some (x, M')) : am_Calls 134 [.inr (.inr (some 0)), .inl v1, .inl v2, .inl v3] SH M (am_rv (am_rk 134) x) SH M' :=
  vCall (F := F_X8_least_0) (C := fun _ _ _ _ => none) (fu := 7) ok_X8_least pn_X8_least ml_X8_least rfl (Nat.le_of_ble_eq_true rfl) fs_X8_least_0 (fun _ _ _ _ h => by cases h) h
noncomputable def F_X1_dueToCrown_14_11 : Nat → List am_V → am_M → am_Rs := fun k as M => if k = 15 then (match as with
  | [.inr (.inr (some 14)), .inl a1] => X_X1_rateOf_14 a1 M
  | _ => none) else if k = 43 then (match as with
  | [.inr (.inr (some 11)), .inl a1, .inl a2, .inl a3, .inl a4] => X_X2_dueTo_11 a1 a2 a3 a4 M
  | _ => none) else none
theorem fs_X1_dueToCrown_14_11 : am_FS SH F_X1_dueToCrown_14_11 := by
  intro k as M x M' h
  unfold F_X1_dueToCrown_14_11 at h
  split at h
  · rename_i hk; subst hk
    split at h
    · exact dc_X1_rateOf_14 _ _ _ _ h
    · cases h
  split at h
  · rename_i hk; subst hk
    split at h
    · exact dc_X2_dueTo_11 _ _ _ _ _ _ _ h
    · cases h
  cases h
noncomputable def XB_X1_dueToCrown_14_11_1 (c1 : Int → Int → Int → Int → am_M → am_Rs) (c3 : Int → am_M → am_Rs) (v2 v3 v4 v5 : Int) (M : am_M) : am_Rs :=
  if wI v5 < wI (M 11 0) then
   (X_X1_rateOf_14 v2 M).bind fun z1 =>
   (X_X2_dueTo_11 v2 v5 v3 z1.1 z1.2).bind fun z2 =>
   c1 v2 v3 (v4 + z2.1) (v5 + 1) z2.2
  else c3 v4 M
set_option maxRecDepth 100000 in
theorem rs_X1_dueToCrown_14_11_1 {x : Int} {M' : am_M} {c1 : Int → Int → Int → Int → am_M → am_Rs} {c3 : Int → am_M → am_Rs} (h1 : ∀ w2 w3 w4 w5 M, c1 w2 w3 w4 w5 M = some (x, M') → am_R none 25 bk_X1_dueToCrown 1 (am_wr [17, 14, 1, 1, 1, 1] [w2, w3, w4, w5]) [] SH M (am_rv (am_rk 25) x) SH M') (h3 : ∀ w4 M, c3 w4 M = some (x, M') → am_R none 25 bk_X1_dueToCrown 3 (am_wr [0, 0, 0, 0, 1, 0] [w4]) [] SH M (am_rv (am_rk 25) x) SH M') (v2 v3 v4 v5 : Int) (M : am_M) (h : XB_X1_dueToCrown_14_11_1 c1 c3 v2 v3 v4 v5 M = some (x, M')) : am_R none 25 bk_X1_dueToCrown 1 (am_wr [17, 14, 1, 1, 1, 1] [v2, v3, v4, v5]) [] SH M (am_rv (am_rk 25) x) SH M' :=
  vRegion (sc := none) (sh := SH) (F := F_X1_dueToCrown_14_11) (k := 25) (bs := bk_X1_dueToCrown) (r := (x, M')) (C := fun t lv st M => if t = 1 then vCt [17, 14, 1, 1, 1, 1] (un4 c1) lv st M else if t = 3 then vCt [0, 0, 0, 0, 1, 0] (un1 c3) lv st M else none) ok_X1_dueToCrown fs_X1_dueToCrown_14_11 (fun t lv st M h => by
    split at h
    · rename_i e; subst e; exact vCt_s (un4_s h1) h
    split at h
    · rename_i e; subst e; exact vCt_s (un1_s h3) h
    cases h) 6 1 (am_wr [17, 14, 1, 1, 1, 1] [v2, v3, v4, v5]) [] M h
noncomputable def XB_X1_dueToCrown_14_11_3 (v4 : Int) (M : am_M) : am_Rs :=
  some (v4, M)
set_option maxRecDepth 100000 in
theorem rs_X1_dueToCrown_14_11_3 {x : Int} {M' : am_M} (v4 : Int) (M : am_M) (h : XB_X1_dueToCrown_14_11_3 v4 M = some (x, M')) : am_R none 25 bk_X1_dueToCrown 3 (am_wr [0, 0, 0, 0, 1, 0] [v4]) [] SH M (am_rv (am_rk 25) x) SH M' :=
  vRegion (sc := none) (sh := SH) (F := F_X1_dueToCrown_14_11) (k := 25) (bs := bk_X1_dueToCrown) (r := (x, M')) (C := fun t lv st M => none) ok_X1_dueToCrown fs_X1_dueToCrown_14_11 (fun t lv st M h => by
    cases h) 6 3 (am_wr [0, 0, 0, 0, 1, 0] [v4]) [] M h
noncomputable def XB_X1_dueToCrown_14_11_e (c1 : Int → Int → Int → Int → am_M → am_Rs) (v2 v3 : Int) (M : am_M) : am_Rs :=
  c1 v2 v3 0 0 M
set_option maxRecDepth 100000 in
theorem rs_X1_dueToCrown_14_11_e {x : Int} {M' : am_M} {c1 : Int → Int → Int → Int → am_M → am_Rs} (h1 : ∀ w2 w3 w4 w5 M, c1 w2 w3 w4 w5 M = some (x, M') → am_R none 25 bk_X1_dueToCrown 1 (am_wr [17, 14, 1, 1, 1, 1] [w2, w3, w4, w5]) [] SH M (am_rv (am_rk 25) x) SH M') (v2 v3 : Int) (M : am_M) (h : XB_X1_dueToCrown_14_11_e c1 v2 v3 M = some (x, M')) : am_R none 25 bk_X1_dueToCrown 0 (am_ent 6 [.inr (.inr (some 14)), .inr (.inr (some 11)), .inl v2, .inl v3]) [] SH M (am_rv (am_rk 25) x) SH M' :=
  vRegion (sc := none) (sh := SH) (F := F_X1_dueToCrown_14_11) (k := 25) (bs := bk_X1_dueToCrown) (r := (x, M')) (C := fun t lv st M => if t = 1 then vCt [17, 14, 1, 1, 1, 1] (un4 c1) lv st M else none) ok_X1_dueToCrown fs_X1_dueToCrown_14_11 (fun t lv st M h => by
    split at h
    · rename_i e; subst e; exact vCt_s (un4_s h1) h
    cases h) 6 0 (am_ent 6 [.inr (.inr (some 14)), .inr (.inr (some 11)), .inl v2, .inl v3]) [] M h
noncomputable def XL_X1_dueToCrown_14_11_1 (k3 : Int → am_M → am_Rs) : Nat → Int → Int → Int → Int → am_M → am_Rs
  | 0, _, _, _, _, _ => none
  | n + 1, v2, v3, v4, v5, M => XB_X1_dueToCrown_14_11_1 (XL_X1_dueToCrown_14_11_1 k3 n) k3 v2 v3 v4 v5 M
theorem ls_X1_dueToCrown_14_11_1 {x : Int} {M' : am_M} {k3 : Int → am_M → am_Rs} (hk3 : ∀ w4 M, k3 w4 M = some (x, M') → am_R none 25 bk_X1_dueToCrown 3 (am_wr [0, 0, 0, 0, 1, 0] [w4]) [] SH M (am_rv (am_rk 25) x) SH M') : ∀ (n : Nat) (v2 v3 v4 v5 : Int) (M : am_M), XL_X1_dueToCrown_14_11_1 k3 n v2 v3 v4 v5 M = some (x, M') → am_R none 25 bk_X1_dueToCrown 1 (am_wr [17, 14, 1, 1, 1, 1] [v2, v3, v4, v5]) [] SH M (am_rv (am_rk 25) x) SH M'
  | 0, v2, v3, v4, v5, M, h => by cases h
  | n + 1, v2, v3, v4, v5, M, h => rs_X1_dueToCrown_14_11_1 (ls_X1_dueToCrown_14_11_1 hk3 n) hk3 v2 v3 v4 v5 M h
noncomputable def X_X1_dueToCrown_14_11 (v2 v3 : Int) (M : am_M) : am_Rs := XB_X1_dueToCrown_14_11_e (XL_X1_dueToCrown_14_11_1 (XB_X1_dueToCrown_14_11_3) 1000) v2 v3 M
theorem dc_X1_dueToCrown_14_11 (v2 v3 : Int) (M M' : am_M) (x : Int) (h : X_X1_dueToCrown_14_11 v2 v3 M = some (x, M')) : am_Calls 25 [.inr (.inr (some 14)), .inr (.inr (some 11)), .inl v2, .inl v3] SH M (am_rv (am_rk 25) x) SH M' :=
  am_enter pn_X1_dueToCrown ml_X1_dueToCrown rfl (Nat.le_of_ble_eq_true rfl) ⟨Nat.le_refl _, Nat.le_refl _⟩ (rs_X1_dueToCrown_14_11_e (ls_X1_dueToCrown_14_11_1 (rs_X1_dueToCrown_14_11_3) 1000) v2 v3 M h)
noncomputable def F_X4_tollLostBy_36 : Nat → List am_V → am_M → am_Rs := fun k as M => if k = 25 then (match as with
  | [.inr (.inr (some 14)), .inr (.inr (some 11)), .inl a2, .inl a3] => X_X1_dueToCrown_14_11 a2 a3 M
  | _ => none) else none
theorem fs_X4_tollLostBy_36 : am_FS SH F_X4_tollLostBy_36 := by
  intro k as M x M' h
  unfold F_X4_tollLostBy_36 at h
  split at h
  · rename_i hk; subst hk
    split at h
    · exact dc_X1_dueToCrown_14_11 _ _ _ _ _ h
    · cases h
  cases h
noncomputable def XB_X4_tollLostBy_36_1 (c1 : Int → Int → am_M → am_Rs) (c3 : am_M → am_Rs) (v1 v2 : Int) (M : am_M) : am_Rs :=
  if wI v2 < 13 then
   (X_X1_dueToCrown_14_11 v1 v2 M).bind fun z1 =>
   if 0 ≤ wI v2 ∧ wI v2 < 13 then
   c1 v1 (v2 + 1) (am_up z1.2 37 (wI v2).toNat (-z1.1))
   else none
  else c3 M
set_option maxRecDepth 100000 in
theorem rs_X4_tollLostBy_36_1 {x : Int} {M' : am_M} {c1 : Int → Int → am_M → am_Rs} {c3 : am_M → am_Rs} (h1 : ∀ w1 w2 M, c1 w1 w2 M = some (x, M') → am_R none 57 bk_X4_tollLostBy 1 (am_wr [39, 1, 1] [w1, w2]) [] SH M (am_rv (am_rk 57) x) SH M') (h3 : ∀ M, c3 M = some (x, M') → am_R none 57 bk_X4_tollLostBy 3 (am_wr [0, 0, 0] []) [] SH M (am_rv (am_rk 57) x) SH M') (v1 v2 : Int) (M : am_M) (h : XB_X4_tollLostBy_36_1 c1 c3 v1 v2 M = some (x, M')) : am_R none 57 bk_X4_tollLostBy 1 (am_wr [39, 1, 1] [v1, v2]) [] SH M (am_rv (am_rk 57) x) SH M' :=
  vRegion (sc := none) (sh := SH) (F := F_X4_tollLostBy_36) (k := 57) (bs := bk_X4_tollLostBy) (r := (x, M')) (C := fun t lv st M => if t = 1 then vCt [39, 1, 1] (un2 c1) lv st M else if t = 3 then vCt [0, 0, 0] (un0 c3) lv st M else none) ok_X4_tollLostBy fs_X4_tollLostBy_36 (fun t lv st M h => by
    split at h
    · rename_i e; subst e; exact vCt_s (un2_s h1) h
    split at h
    · rename_i e; subst e; exact vCt_s (un0_s h3) h
    cases h) 6 1 (am_wr [39, 1, 1] [v1, v2]) [] M h
noncomputable def XB_X4_tollLostBy_36_3 (M : am_M) : am_Rs :=
  some (0, M)
set_option maxRecDepth 100000 in
theorem rs_X4_tollLostBy_36_3 {x : Int} {M' : am_M} (M : am_M) (h : XB_X4_tollLostBy_36_3 M = some (x, M')) : am_R none 57 bk_X4_tollLostBy 3 (am_wr [0, 0, 0] []) [] SH M (am_rv (am_rk 57) x) SH M' :=
  vRegion (sc := none) (sh := SH) (F := F_X4_tollLostBy_36) (k := 57) (bs := bk_X4_tollLostBy) (r := (x, M')) (C := fun t lv st M => none) ok_X4_tollLostBy fs_X4_tollLostBy_36 (fun t lv st M h => by
    cases h) 6 3 (am_wr [0, 0, 0] []) [] M h
noncomputable def XB_X4_tollLostBy_36_e (c1 : Int → Int → am_M → am_Rs) (v1 : Int) (M : am_M) : am_Rs :=
  c1 v1 0 M
set_option maxRecDepth 100000 in
theorem rs_X4_tollLostBy_36_e {x : Int} {M' : am_M} {c1 : Int → Int → am_M → am_Rs} (h1 : ∀ w1 w2 M, c1 w1 w2 M = some (x, M') → am_R none 57 bk_X4_tollLostBy 1 (am_wr [39, 1, 1] [w1, w2]) [] SH M (am_rv (am_rk 57) x) SH M') (v1 : Int) (M : am_M) (h : XB_X4_tollLostBy_36_e c1 v1 M = some (x, M')) : am_R none 57 bk_X4_tollLostBy 0 (am_ent 3 [.inr (.inr (some 36)), .inl v1]) [] SH M (am_rv (am_rk 57) x) SH M' :=
  vRegion (sc := none) (sh := SH) (F := F_X4_tollLostBy_36) (k := 57) (bs := bk_X4_tollLostBy) (r := (x, M')) (C := fun t lv st M => if t = 1 then vCt [39, 1, 1] (un2 c1) lv st M else none) ok_X4_tollLostBy fs_X4_tollLostBy_36 (fun t lv st M h => by
    split at h
    · rename_i e; subst e; exact vCt_s (un2_s h1) h
    cases h) 6 0 (am_ent 3 [.inr (.inr (some 36)), .inl v1]) [] M h
noncomputable def XL_X4_tollLostBy_36_1 (k3 : am_M → am_Rs) : Nat → Int → Int → am_M → am_Rs
  | 0, _, _, _ => none
  | n + 1, v1, v2, M => XB_X4_tollLostBy_36_1 (XL_X4_tollLostBy_36_1 k3 n) k3 v1 v2 M
theorem ls_X4_tollLostBy_36_1 {x : Int} {M' : am_M} {k3 : am_M → am_Rs} (hk3 : ∀ M, k3 M = some (x, M') → am_R none 57 bk_X4_tollLostBy 3 (am_wr [0, 0, 0] []) [] SH M (am_rv (am_rk 57) x) SH M') : ∀ (n : Nat) (v1 v2 : Int) (M : am_M), XL_X4_tollLostBy_36_1 k3 n v1 v2 M = some (x, M') → am_R none 57 bk_X4_tollLostBy 1 (am_wr [39, 1, 1] [v1, v2]) [] SH M (am_rv (am_rk 57) x) SH M'
  | 0, v1, v2, M, h => by cases h
  | n + 1, v1, v2, M, h => rs_X4_tollLostBy_36_1 (ls_X4_tollLostBy_36_1 hk3 n) hk3 v1 v2 M h
noncomputable def X_X4_tollLostBy_36 (v1 : Int) (M : am_M) : am_Rs := XB_X4_tollLostBy_36_e (XL_X4_tollLostBy_36_1 (XB_X4_tollLostBy_36_3) 1000) v1 M
theorem dc_X4_tollLostBy_36 (v1 : Int) (M M' : am_M) (x : Int) (h : X_X4_tollLostBy_36 v1 M = some (x, M')) : am_Calls 57 [.inr (.inr (some 36)), .inl v1] SH M (am_rv (am_rk 57) x) SH M' :=
  am_enter pn_X4_tollLostBy ml_X4_tollLostBy rfl (Nat.le_of_ble_eq_true rfl) ⟨Nat.le_refl _, Nat.le_refl _⟩ (rs_X4_tollLostBy_36_e (ls_X4_tollLostBy_36_1 (rs_X4_tollLostBy_36_3) 1000) v1 M h)
noncomputable def F_X8_most_0 : Nat → List am_V → am_M → am_Rs := fun k as M => if k = 57 then (match as with
  | [.inr (.inr (some 36)), .inl a1] => X_X4_tollLostBy_36 a1 M
  | _ => none) else if k = 59 then (match as with
  | [.inr (.inr (some 36)), .inl a1, .inl a2, .inl a3] => X_X4_solve_36 a1 a2 a3 M
  | _ => none) else if k = 62 then (match as with
  | [.inr (.inr (some 36)), .inl a1, .inl a2] => X_X4_costFrom_36 a1 a2 M
  | _ => none) else if k = 158 then (match as with
  | [.inr (.inr (some 0))] => X_X8_hasNoLand_0 M
  | _ => none) else if k = 159 then (match as with
  | [.inl a0] => X_X8_isCrown a0 M
  | _ => none) else if k = 160 then (match as with
  | [.inl a0] => X_X8_isPlanLength a0 M
  | _ => none) else none
theorem fs_X8_most_0 : am_FS SH F_X8_most_0 := by
  intro k as M x M' h
  unfold F_X8_most_0 at h
  split at h
  · rename_i hk; subst hk
    split at h
    · exact dc_X4_tollLostBy_36 _ _ _ _ h
    · cases h
  split at h
  · rename_i hk; subst hk
    split at h
    · exact dc_X4_solve_36 _ _ _ _ _ _ h
    · cases h
  split at h
  · rename_i hk; subst hk
    split at h
    · exact dc_X4_costFrom_36 _ _ _ _ _ h
    · cases h
  split at h
  · rename_i hk; subst hk
    split at h
    · exact dc_X8_hasNoLand_0 _ _ _ h
    · cases h
  split at h
  · rename_i hk; subst hk
    split at h
    · exact dc_X8_isCrown _ _ _ _ h
    · cases h
  split at h
  · rename_i hk; subst hk
    split at h
    · exact dc_X8_isPlanLength _ _ _ _ h
    · cases h
  cases h
noncomputable def X_X8_most_0 (v1 v2 : Int) (M : am_M) : am_Rs :=
  (X_X8_isCrown v1 M).bind fun z1 =>
  if wI z1.1 = 0 then
   some ((-1), z1.2)
  else (X_X8_isPlanLength v2 z1.2).bind fun z2 =>
  if wI z2.1 = 0 then
   some ((-1), z2.2)
  else (X_X8_hasNoLand_0 z2.2).bind fun z3 =>
  if wI z3.1 = 0 then
   (X_X4_tollLostBy_36 v1 z3.2).bind fun z4 =>
   (X_X4_solve_36 v2 (-1) 0 z4.2).bind fun z5 =>
   (X_X4_costFrom_36 0 (z5.2 14 1) z5.2).bind fun z6 =>
   some (-z6.1, z6.2)
  else some ((-4), z3.2)
set_option maxRecDepth 100000 in
theorem dc_X8_most_0 (v1 v2 : Int) (M M' : am_M) (x : Int) (h : X_X8_most_0 v1 v2 M = some (x, M')) : am_Calls 135 [.inr (.inr (some 0)), .inl v1, .inl v2] SH M (am_rv (am_rk 135) x) SH M' :=
  vCall (F := F_X8_most_0) (C := fun _ _ _ _ => none) (fu := 8) ok_X8_most pn_X8_most ml_X8_most rfl (Nat.le_of_ble_eq_true rfl) fs_X8_most_0 (fun _ _ _ _ h => by cases h) h
noncomputable def F_X8_now_0 : Nat → List am_V → am_M → am_Rs := fun k as M => if k = 25 then (match as with
  | [.inr (.inr (some 14)), .inr (.inr (some 11)), .inl a2, .inl a3] => X_X1_dueToCrown_14_11 a2 a3 M
  | _ => none) else if k = 155 then (match as with
  | [.inr (.inr (some 0)), .inl a1] => X_X8_tell_0 a1 M
  | _ => none) else if k = 158 then (match as with
  | [.inr (.inr (some 0))] => X_X8_hasNoLand_0 M
  | _ => none) else none
theorem fs_X8_now_0 : am_FS SH F_X8_now_0 := by
  intro k as M x M' h
  unfold F_X8_now_0 at h
  split at h
  · rename_i hk; subst hk
    split at h
    · exact dc_X1_dueToCrown_14_11 _ _ _ _ _ h
    · cases h
  split at h
  · rename_i hk; subst hk
    split at h
    · exact dc_X8_tell_0 _ _ _ _ h
    · cases h
  split at h
  · rename_i hk; subst hk
    split at h
    · exact dc_X8_hasNoLand_0 _ _ _ h
    · cases h
  cases h
noncomputable def X_X8_now_0 (M : am_M) : am_Rs :=
  (X_X8_hasNoLand_0 M).bind fun z1 =>
  if wI z1.1 = 0 then
   (X_X1_dueToCrown_14_11 1 (z1.2 14 1) z1.2).bind fun z2 =>
   (X_X8_tell_0 z2.1 z2.2).bind fun z3 =>
   (X_X1_dueToCrown_14_11 0 (z3.2 14 1) z3.2).bind fun z4 =>
   some (z4.1, z4.2)
  else some ((-4), z1.2)
set_option maxRecDepth 100000 in
theorem dc_X8_now_0 (M M' : am_M) (x : Int) (h : X_X8_now_0 M = some (x, M')) : am_Calls 136 [.inr (.inr (some 0))] SH M (am_rv (am_rk 136) x) SH M' :=
  vCall (F := F_X8_now_0) (C := fun _ _ _ _ => none) (fu := 5) ok_X8_now pn_X8_now ml_X8_now rfl (Nat.le_of_ble_eq_true rfl) fs_X8_now_0 (fun _ _ _ _ h => by cases h) h
noncomputable def X_X8_isChanceLength (v0 : Int) (M : am_M) : am_Rs :=
  if wI v0 < 0 then
   some (0, M)
  else if 6 < wI v0 then
   some (0, M)
  else some (1, M)
set_option maxRecDepth 100000 in
theorem dc_X8_isChanceLength (v0 : Int) (M M' : am_M) (x : Int) (h : X_X8_isChanceLength v0 M = some (x, M')) : am_Calls 161 [.inl v0] SH M (am_rv (am_rk 161) x) SH M' :=
  vCall (F := F_none) (C := fun _ _ _ _ => none) (fu := 7) ok_X8_isChanceLength pn_X8_isChanceLength ml_X8_isChanceLength rfl (Nat.le_of_ble_eq_true rfl) fs_none (fun _ _ _ _ h => by cases h) h
noncomputable def XB_J7_fill_d0a16_42_1 (c1 : Int → Int → Int → am_M → am_Rs) (c3 : am_M → am_Rs) (v1 v3 v4 : Int) (M : am_M) : am_Rs :=
  if wI v3 < wI v4 then
   if 0 ≤ wI v3 ∧ wI v3 < 13 then
   c1 v1 (v3 + 1) v4 (am_up M 42 (wI v3).toNat v1)
   else none
  else c3 M
set_option maxRecDepth 100000 in
theorem rs_J7_fill_d0a16_42_1 {x : Int} {M' : am_M} {c1 : Int → Int → Int → am_M → am_Rs} {c3 : am_M → am_Rs} (h1 : ∀ w1 w3 w4 M, c1 w1 w3 w4 M = some (x, M') → am_R none 276 bk_J7_fill_d0a16 1 (am_wr [45, 2, 0, 1, 1] [w1, w3, w4]) [] SH M (am_rv (am_rk 276) x) SH M') (h3 : ∀ M, c3 M = some (x, M') → am_R none 276 bk_J7_fill_d0a16 3 (am_wr [0, 0, 0, 0, 0] []) [] SH M (am_rv (am_rk 276) x) SH M') (v1 v3 v4 : Int) (M : am_M) (h : XB_J7_fill_d0a16_42_1 c1 c3 v1 v3 v4 M = some (x, M')) : am_R none 276 bk_J7_fill_d0a16 1 (am_wr [45, 2, 0, 1, 1] [v1, v3, v4]) [] SH M (am_rv (am_rk 276) x) SH M' :=
  vRegion (sc := none) (sh := SH) (F := F_none) (k := 276) (bs := bk_J7_fill_d0a16) (r := (x, M')) (C := fun t lv st M => if t = 1 then vCt [45, 2, 0, 1, 1] (un3 c1) lv st M else if t = 3 then vCt [0, 0, 0, 0, 0] (un0 c3) lv st M else none) ok_J7_fill_d0a16 fs_none (fun t lv st M h => by
    split at h
    · rename_i e; subst e; exact vCt_s (un3_s h1) h
    split at h
    · rename_i e; subst e; exact vCt_s (un0_s h3) h
    cases h) 6 1 (am_wr [45, 2, 0, 1, 1] [v1, v3, v4]) [] M h
noncomputable def XB_J7_fill_d0a16_42_3 (M : am_M) : am_Rs :=
  some (0, M)
set_option maxRecDepth 100000 in
theorem rs_J7_fill_d0a16_42_3 {x : Int} {M' : am_M} (M : am_M) (h : XB_J7_fill_d0a16_42_3 M = some (x, M')) : am_R none 276 bk_J7_fill_d0a16 3 (am_wr [0, 0, 0, 0, 0] []) [] SH M (am_rv (am_rk 276) x) SH M' :=
  vRegion (sc := none) (sh := SH) (F := F_none) (k := 276) (bs := bk_J7_fill_d0a16) (r := (x, M')) (C := fun t lv st M => none) ok_J7_fill_d0a16 fs_none (fun t lv st M h => by
    cases h) 6 3 (am_wr [0, 0, 0, 0, 0] []) [] M h
noncomputable def XB_J7_fill_d0a16_42_e (c1 : Int → Int → Int → am_M → am_Rs) (v1 : Int) (M : am_M) : am_Rs :=
  c1 v1 0 13 M
set_option maxRecDepth 100000 in
theorem rs_J7_fill_d0a16_42_e {x : Int} {M' : am_M} {c1 : Int → Int → Int → am_M → am_Rs} (h1 : ∀ w1 w3 w4 M, c1 w1 w3 w4 M = some (x, M') → am_R none 276 bk_J7_fill_d0a16 1 (am_wr [45, 2, 0, 1, 1] [w1, w3, w4]) [] SH M (am_rv (am_rk 276) x) SH M') (v1 : Int) (M : am_M) (h : XB_J7_fill_d0a16_42_e c1 v1 M = some (x, M')) : am_R none 276 bk_J7_fill_d0a16 0 (am_ent 5 [.inr (.inr (some 42)), .inr (.inl v1)]) [] SH M (am_rv (am_rk 276) x) SH M' :=
  vRegion (sc := none) (sh := SH) (F := F_none) (k := 276) (bs := bk_J7_fill_d0a16) (r := (x, M')) (C := fun t lv st M => if t = 1 then vCt [45, 2, 0, 1, 1] (un3 c1) lv st M else none) ok_J7_fill_d0a16 fs_none (fun t lv st M h => by
    split at h
    · rename_i e; subst e; exact vCt_s (un3_s h1) h
    cases h) 6 0 (am_ent 5 [.inr (.inr (some 42)), .inr (.inl v1)]) [] M h
noncomputable def XL_J7_fill_d0a16_42_1 (k3 : am_M → am_Rs) : Nat → Int → Int → Int → am_M → am_Rs
  | 0, _, _, _, _ => none
  | n + 1, v1, v3, v4, M => XB_J7_fill_d0a16_42_1 (XL_J7_fill_d0a16_42_1 k3 n) k3 v1 v3 v4 M
theorem ls_J7_fill_d0a16_42_1 {x : Int} {M' : am_M} {k3 : am_M → am_Rs} (hk3 : ∀ M, k3 M = some (x, M') → am_R none 276 bk_J7_fill_d0a16 3 (am_wr [0, 0, 0, 0, 0] []) [] SH M (am_rv (am_rk 276) x) SH M') : ∀ (n : Nat) (v1 v3 v4 : Int) (M : am_M), XL_J7_fill_d0a16_42_1 k3 n v1 v3 v4 M = some (x, M') → am_R none 276 bk_J7_fill_d0a16 1 (am_wr [45, 2, 0, 1, 1] [v1, v3, v4]) [] SH M (am_rv (am_rk 276) x) SH M'
  | 0, v1, v3, v4, M, h => by cases h
  | n + 1, v1, v3, v4, M, h => rs_J7_fill_d0a16_42_1 (ls_J7_fill_d0a16_42_1 hk3 n) hk3 v1 v3 v4 M h
noncomputable def X_J7_fill_d0a16_42 (v1 : Int) (M : am_M) : am_Rs := XB_J7_fill_d0a16_42_e (XL_J7_fill_d0a16_42_1 (XB_J7_fill_d0a16_42_3) 1000) v1 M
theorem dc_J7_fill_d0a16_42 (v1 : Int) (M M' : am_M) (x : Int) (h : X_J7_fill_d0a16_42 v1 M = some (x, M')) : am_Calls 276 [.inr (.inr (some 42)), .inr (.inl v1)] SH M (am_rv (am_rk 276) x) SH M' :=
  am_enter pn_J7_fill_d0a16 ml_J7_fill_d0a16 rfl (Nat.le_of_ble_eq_true rfl) ⟨Nat.le_refl _, Nat.le_refl _⟩ (rs_J7_fill_d0a16_42_e (ls_J7_fill_d0a16_42_1 (rs_J7_fill_d0a16_42_3) 1000) v1 M h)
noncomputable def F_X0_begin_41 : Nat → List am_V → am_M → am_Rs := fun k as M => if k = 276 then (match as with
  | [.inr (.inr (some 42)), .inr (.inl a1)] => X_J7_fill_d0a16_42 a1 M
  | _ => none) else none
theorem fs_X0_begin_41 : am_FS SH F_X0_begin_41 := by
  intro k as M x M' h
  unfold F_X0_begin_41 at h
  split at h
  · rename_i hk; subst hk
    split at h
    · exact dc_J7_fill_d0a16_42 _ _ _ _ h
    · cases h
  cases h
noncomputable def X_X0_begin_41 (M : am_M) : am_Rs :=
  (X_J7_fill_d0a16_42 0 M).bind fun z1 =>
  if wI (z1.2 14 1) < 0 then
   some (0, z1.2)
  else if wI (z1.2 14 1) < 13 then
   if 0 ≤ wI (z1.2 14 1) ∧ wI (z1.2 14 1) < 13 then
   some (0, (am_up z1.2 42 (wI (z1.2 14 1)).toNat 1))
   else none
  else some (0, z1.2)
set_option maxRecDepth 100000 in
theorem dc_X0_begin_41 (M M' : am_M) (x : Int) (h : X_X0_begin_41 M = some (x, M')) : am_Calls 6 [.inr (.inr (some 41))] SH M (am_rv (am_rk 6) x) SH M' :=
  vCall (F := F_X0_begin_41) (C := fun _ _ _ _ => none) (fu := 6) ok_X0_begin pn_X0_begin ml_X0_begin rfl (Nat.le_of_ble_eq_true rfl) fs_X0_begin_41 (fun _ _ _ _ h => by cases h) h
noncomputable def XB_J7_fill_d0a16_43_1 (c1 : Int → Int → Int → am_M → am_Rs) (c3 : am_M → am_Rs) (v1 v3 v4 : Int) (M : am_M) : am_Rs :=
  if wI v3 < wI v4 then
   if 0 ≤ wI v3 ∧ wI v3 < 13 then
   c1 v1 (v3 + 1) v4 (am_up M 43 (wI v3).toNat v1)
   else none
  else c3 M
set_option maxRecDepth 100000 in
theorem rs_J7_fill_d0a16_43_1 {x : Int} {M' : am_M} {c1 : Int → Int → Int → am_M → am_Rs} {c3 : am_M → am_Rs} (h1 : ∀ w1 w3 w4 M, c1 w1 w3 w4 M = some (x, M') → am_R none 276 bk_J7_fill_d0a16 1 (am_wr [46, 2, 0, 1, 1] [w1, w3, w4]) [] SH M (am_rv (am_rk 276) x) SH M') (h3 : ∀ M, c3 M = some (x, M') → am_R none 276 bk_J7_fill_d0a16 3 (am_wr [0, 0, 0, 0, 0] []) [] SH M (am_rv (am_rk 276) x) SH M') (v1 v3 v4 : Int) (M : am_M) (h : XB_J7_fill_d0a16_43_1 c1 c3 v1 v3 v4 M = some (x, M')) : am_R none 276 bk_J7_fill_d0a16 1 (am_wr [46, 2, 0, 1, 1] [v1, v3, v4]) [] SH M (am_rv (am_rk 276) x) SH M' :=
  vRegion (sc := none) (sh := SH) (F := F_none) (k := 276) (bs := bk_J7_fill_d0a16) (r := (x, M')) (C := fun t lv st M => if t = 1 then vCt [46, 2, 0, 1, 1] (un3 c1) lv st M else if t = 3 then vCt [0, 0, 0, 0, 0] (un0 c3) lv st M else none) ok_J7_fill_d0a16 fs_none (fun t lv st M h => by
    split at h
    · rename_i e; subst e; exact vCt_s (un3_s h1) h
    split at h
    · rename_i e; subst e; exact vCt_s (un0_s h3) h
    cases h) 6 1 (am_wr [46, 2, 0, 1, 1] [v1, v3, v4]) [] M h
noncomputable def XB_J7_fill_d0a16_43_3 (M : am_M) : am_Rs :=
  some (0, M)
set_option maxRecDepth 100000 in
theorem rs_J7_fill_d0a16_43_3 {x : Int} {M' : am_M} (M : am_M) (h : XB_J7_fill_d0a16_43_3 M = some (x, M')) : am_R none 276 bk_J7_fill_d0a16 3 (am_wr [0, 0, 0, 0, 0] []) [] SH M (am_rv (am_rk 276) x) SH M' :=
  vRegion (sc := none) (sh := SH) (F := F_none) (k := 276) (bs := bk_J7_fill_d0a16) (r := (x, M')) (C := fun t lv st M => none) ok_J7_fill_d0a16 fs_none (fun t lv st M h => by
    cases h) 6 3 (am_wr [0, 0, 0, 0, 0] []) [] M h
noncomputable def XB_J7_fill_d0a16_43_e (c1 : Int → Int → Int → am_M → am_Rs) (v1 : Int) (M : am_M) : am_Rs :=
  c1 v1 0 13 M
set_option maxRecDepth 100000 in
theorem rs_J7_fill_d0a16_43_e {x : Int} {M' : am_M} {c1 : Int → Int → Int → am_M → am_Rs} (h1 : ∀ w1 w3 w4 M, c1 w1 w3 w4 M = some (x, M') → am_R none 276 bk_J7_fill_d0a16 1 (am_wr [46, 2, 0, 1, 1] [w1, w3, w4]) [] SH M (am_rv (am_rk 276) x) SH M') (v1 : Int) (M : am_M) (h : XB_J7_fill_d0a16_43_e c1 v1 M = some (x, M')) : am_R none 276 bk_J7_fill_d0a16 0 (am_ent 5 [.inr (.inr (some 43)), .inr (.inl v1)]) [] SH M (am_rv (am_rk 276) x) SH M' :=
  vRegion (sc := none) (sh := SH) (F := F_none) (k := 276) (bs := bk_J7_fill_d0a16) (r := (x, M')) (C := fun t lv st M => if t = 1 then vCt [46, 2, 0, 1, 1] (un3 c1) lv st M else none) ok_J7_fill_d0a16 fs_none (fun t lv st M h => by
    split at h
    · rename_i e; subst e; exact vCt_s (un3_s h1) h
    cases h) 6 0 (am_ent 5 [.inr (.inr (some 43)), .inr (.inl v1)]) [] M h
noncomputable def XL_J7_fill_d0a16_43_1 (k3 : am_M → am_Rs) : Nat → Int → Int → Int → am_M → am_Rs
  | 0, _, _, _, _ => none
  | n + 1, v1, v3, v4, M => XB_J7_fill_d0a16_43_1 (XL_J7_fill_d0a16_43_1 k3 n) k3 v1 v3 v4 M
theorem ls_J7_fill_d0a16_43_1 {x : Int} {M' : am_M} {k3 : am_M → am_Rs} (hk3 : ∀ M, k3 M = some (x, M') → am_R none 276 bk_J7_fill_d0a16 3 (am_wr [0, 0, 0, 0, 0] []) [] SH M (am_rv (am_rk 276) x) SH M') : ∀ (n : Nat) (v1 v3 v4 : Int) (M : am_M), XL_J7_fill_d0a16_43_1 k3 n v1 v3 v4 M = some (x, M') → am_R none 276 bk_J7_fill_d0a16 1 (am_wr [46, 2, 0, 1, 1] [v1, v3, v4]) [] SH M (am_rv (am_rk 276) x) SH M'
  | 0, v1, v3, v4, M, h => by cases h
  | n + 1, v1, v3, v4, M, h => rs_J7_fill_d0a16_43_1 (ls_J7_fill_d0a16_43_1 hk3 n) hk3 v1 v3 v4 M h
noncomputable def X_J7_fill_d0a16_43 (v1 : Int) (M : am_M) : am_Rs := XB_J7_fill_d0a16_43_e (XL_J7_fill_d0a16_43_1 (XB_J7_fill_d0a16_43_3) 1000) v1 M
theorem dc_J7_fill_d0a16_43 (v1 : Int) (M M' : am_M) (x : Int) (h : X_J7_fill_d0a16_43 v1 M = some (x, M')) : am_Calls 276 [.inr (.inr (some 43)), .inr (.inl v1)] SH M (am_rv (am_rk 276) x) SH M' :=
  am_enter pn_J7_fill_d0a16 ml_J7_fill_d0a16 rfl (Nat.le_of_ble_eq_true rfl) ⟨Nat.le_refl _, Nat.le_refl _⟩ (rs_J7_fill_d0a16_43_e (ls_J7_fill_d0a16_43_1 (rs_J7_fill_d0a16_43_3) 1000) v1 M h)
noncomputable def F_X0_pairsThatMove_41 : Nat → List am_V → am_M → am_Rs := fun k as M => if k = 41 then (match as with
  | [.inr (.inr (some 11)), .inl a1, .inl a2, .inl a3] => X_X2_rudeness_11 a1 a2 a3 M
  | _ => none) else none
theorem fs_X0_pairsThatMove_41 : am_FS SH F_X0_pairsThatMove_41 := by
  intro k as M x M' h
  unfold F_X0_pairsThatMove_41 at h
  split at h
  · rename_i hk; subst hk
    split at h
    · exact dc_X2_rudeness_11 _ _ _ _ _ _ h
    · cases h
  cases h
noncomputable def XB_X0_pairsThatMove_41_1 (c1 : Int → Int → Int → am_M → am_Rs) (c4 : Int → am_M → am_Rs) (v4 v5 v6 : Int) (M : am_M) : am_Rs :=
  if 0 < wI v4 then
   if 3 < wI v6 then
    c4 v5 M
   else c1 v4 (v5 + (4 - v6)) (v6 + 1) M
  else c4 v5 M
set_option maxRecDepth 100000 in
theorem rs_X0_pairsThatMove_41_1 {x : Int} {M' : am_M} {c1 : Int → Int → Int → am_M → am_Rs} {c4 : Int → am_M → am_Rs} (h1 : ∀ w4 w5 w6 M, c1 w4 w5 w6 M = some (x, M') → am_R none 10 bk_X0_pairsThatMove 1 (am_wr [0, 0, 0, 0, 1, 1, 1] [w4, w5, w6]) [] SH M (am_rv (am_rk 10) x) SH M') (h4 : ∀ w5 M, c4 w5 M = some (x, M') → am_R none 10 bk_X0_pairsThatMove 4 (am_wr [0, 0, 0, 0, 0, 1, 0] [w5]) [] SH M (am_rv (am_rk 10) x) SH M') (v4 v5 v6 : Int) (M : am_M) (h : XB_X0_pairsThatMove_41_1 c1 c4 v4 v5 v6 M = some (x, M')) : am_R none 10 bk_X0_pairsThatMove 1 (am_wr [0, 0, 0, 0, 1, 1, 1] [v4, v5, v6]) [] SH M (am_rv (am_rk 10) x) SH M' :=
  vRegion (sc := none) (sh := SH) (F := F_X0_pairsThatMove_41) (k := 10) (bs := bk_X0_pairsThatMove) (r := (x, M')) (C := fun t lv st M => if t = 1 then vCt [0, 0, 0, 0, 1, 1, 1] (un3 c1) lv st M else if t = 4 then vCt [0, 0, 0, 0, 0, 1, 0] (un1 c4) lv st M else none) ok_X0_pairsThatMove fs_X0_pairsThatMove_41 (fun t lv st M h => by
    split at h
    · rename_i e; subst e; exact vCt_s (un3_s h1) h
    split at h
    · rename_i e; subst e; exact vCt_s (un1_s h4) h
    cases h) 7 1 (am_wr [0, 0, 0, 0, 1, 1, 1] [v4, v5, v6]) [] M h
noncomputable def XB_X0_pairsThatMove_41_4 (v5 : Int) (M : am_M) : am_Rs :=
  some (v5, M)
set_option maxRecDepth 100000 in
theorem rs_X0_pairsThatMove_41_4 {x : Int} {M' : am_M} (v5 : Int) (M : am_M) (h : XB_X0_pairsThatMove_41_4 v5 M = some (x, M')) : am_R none 10 bk_X0_pairsThatMove 4 (am_wr [0, 0, 0, 0, 0, 1, 0] [v5]) [] SH M (am_rv (am_rk 10) x) SH M' :=
  vRegion (sc := none) (sh := SH) (F := F_X0_pairsThatMove_41) (k := 10) (bs := bk_X0_pairsThatMove) (r := (x, M')) (C := fun t lv st M => none) ok_X0_pairsThatMove fs_X0_pairsThatMove_41 (fun t lv st M h => by
    cases h) 7 4 (am_wr [0, 0, 0, 0, 0, 1, 0] [v5]) [] M h
noncomputable def XB_X0_pairsThatMove_41_e (c1 : Int → Int → Int → am_M → am_Rs) (v1 v2 v3 : Int) (M : am_M) : am_Rs :=
  (X_X2_rudeness_11 v1 v2 v3 M).bind fun z1 =>
  c1 z1.1 0 z1.1 z1.2
set_option maxRecDepth 100000 in
theorem rs_X0_pairsThatMove_41_e {x : Int} {M' : am_M} {c1 : Int → Int → Int → am_M → am_Rs} (h1 : ∀ w4 w5 w6 M, c1 w4 w5 w6 M = some (x, M') → am_R none 10 bk_X0_pairsThatMove 1 (am_wr [0, 0, 0, 0, 1, 1, 1] [w4, w5, w6]) [] SH M (am_rv (am_rk 10) x) SH M') (v1 v2 v3 : Int) (M : am_M) (h : XB_X0_pairsThatMove_41_e c1 v1 v2 v3 M = some (x, M')) : am_R none 10 bk_X0_pairsThatMove 0 (am_ent 7 [.inr (.inr (some 41)), .inl v1, .inl v2, .inl v3]) [] SH M (am_rv (am_rk 10) x) SH M' :=
  vRegion (sc := none) (sh := SH) (F := F_X0_pairsThatMove_41) (k := 10) (bs := bk_X0_pairsThatMove) (r := (x, M')) (C := fun t lv st M => if t = 1 then vCt [0, 0, 0, 0, 1, 1, 1] (un3 c1) lv st M else none) ok_X0_pairsThatMove fs_X0_pairsThatMove_41 (fun t lv st M h => by
    split at h
    · rename_i e; subst e; exact vCt_s (un3_s h1) h
    cases h) 7 0 (am_ent 7 [.inr (.inr (some 41)), .inl v1, .inl v2, .inl v3]) [] M h
noncomputable def XL_X0_pairsThatMove_41_1 (k4 : Int → am_M → am_Rs) : Nat → Int → Int → Int → am_M → am_Rs
  | 0, _, _, _, _ => none
  | n + 1, v4, v5, v6, M => XB_X0_pairsThatMove_41_1 (XL_X0_pairsThatMove_41_1 k4 n) k4 v4 v5 v6 M
theorem ls_X0_pairsThatMove_41_1 {x : Int} {M' : am_M} {k4 : Int → am_M → am_Rs} (hk4 : ∀ w5 M, k4 w5 M = some (x, M') → am_R none 10 bk_X0_pairsThatMove 4 (am_wr [0, 0, 0, 0, 0, 1, 0] [w5]) [] SH M (am_rv (am_rk 10) x) SH M') : ∀ (n : Nat) (v4 v5 v6 : Int) (M : am_M), XL_X0_pairsThatMove_41_1 k4 n v4 v5 v6 M = some (x, M') → am_R none 10 bk_X0_pairsThatMove 1 (am_wr [0, 0, 0, 0, 1, 1, 1] [v4, v5, v6]) [] SH M (am_rv (am_rk 10) x) SH M'
  | 0, v4, v5, v6, M, h => by cases h
  | n + 1, v4, v5, v6, M, h => rs_X0_pairsThatMove_41_1 (ls_X0_pairsThatMove_41_1 hk4 n) hk4 v4 v5 v6 M h
noncomputable def X_X0_pairsThatMove_41 (v1 v2 v3 : Int) (M : am_M) : am_Rs := XB_X0_pairsThatMove_41_e (XL_X0_pairsThatMove_41_1 (XB_X0_pairsThatMove_41_4) 1000) v1 v2 v3 M
theorem dc_X0_pairsThatMove_41 (v1 v2 v3 : Int) (M M' : am_M) (x : Int) (h : X_X0_pairsThatMove_41 v1 v2 v3 M = some (x, M')) : am_Calls 10 [.inr (.inr (some 41)), .inl v1, .inl v2, .inl v3] SH M (am_rv (am_rk 10) x) SH M' :=
  am_enter pn_X0_pairsThatMove ml_X0_pairsThatMove rfl (Nat.le_of_ble_eq_true rfl) ⟨Nat.le_refl _, Nat.le_refl _⟩ (rs_X0_pairsThatMove_41_e (ls_X0_pairsThatMove_41_1 (rs_X0_pairsThatMove_41_4) 1000) v1 v2 v3 M h)
noncomputable def X_X0_pairsAt_41 (v1 : Int) (M : am_M) : am_Rs :=
  if wI v1 < 0 then
   some (0, M)
  else if wI v1 < 13 then
   if 0 ≤ wI v1 ∧ wI v1 < 13 then
   some (M 42 (wI v1).toNat, M)
   else none
  else some (0, M)
set_option maxRecDepth 100000 in
theorem dc_X0_pairsAt_41 (v1 : Int) (M M' : am_M) (x : Int) (h : X_X0_pairsAt_41 v1 M = some (x, M')) : am_Calls 7 [.inr (.inr (some 41)), .inl v1] SH M (am_rv (am_rk 7) x) SH M' :=
  vCall (F := F_none) (C := fun _ _ _ _ => none) (fu := 7) ok_X0_pairsAt pn_X0_pairsAt ml_X0_pairsAt rfl (Nat.le_of_ble_eq_true rfl) fs_none (fun _ _ _ _ h => by cases h) h
noncomputable def X_X0_bring_41 (v1 v2 : Int) (M : am_M) : am_Rs :=
  if wI v1 < 0 then
   some (0, M)
  else if wI v1 < 13 then
   if 0 ≤ wI v1 ∧ wI v1 < 13 then
   if 0 ≤ wI v1 ∧ wI v1 < 13 then
    some (0, (am_up M 43 (wI v1).toNat ((M 43 (wI v1).toNat) + v2)))
    else none
   else none
  else some (0, M)
set_option maxRecDepth 100000 in
theorem dc_X0_bring_41 (v1 v2 : Int) (M M' : am_M) (x : Int) (h : X_X0_bring_41 v1 v2 M = some (x, M')) : am_Calls 9 [.inr (.inr (some 41)), .inl v1, .inr (.inl v2)] SH M (am_rv (am_rk 9) x) SH M' :=
  vCall (F := F_none) (C := fun _ _ _ _ => none) (fu := 6) ok_X0_bring pn_X0_bring ml_X0_bring rfl (Nat.le_of_ble_eq_true rfl) fs_none (fun _ _ _ _ h => by cases h) h
noncomputable def F_X0_goOn_41 : Nat → List am_V → am_M → am_Rs := fun k as M => if k = 7 then (match as with
  | [.inr (.inr (some 41)), .inl a1] => X_X0_pairsAt_41 a1 M
  | _ => none) else if k = 9 then (match as with
  | [.inr (.inr (some 41)), .inl a1, .inr (.inl a2)] => X_X0_bring_41 a1 a2 M
  | _ => none) else if k = 10 then (match as with
  | [.inr (.inr (some 41)), .inl a1, .inl a2, .inl a3] => X_X0_pairsThatMove_41 a1 a2 a3 M
  | _ => none) else if k = 276 then (match as with
  | [.inr (.inr (some 43)), .inr (.inl a1)] => X_J7_fill_d0a16_43 a1 M
  | _ => none) else none
theorem fs_X0_goOn_41 : am_FS SH F_X0_goOn_41 := by
  intro k as M x M' h
  unfold F_X0_goOn_41 at h
  split at h
  · rename_i hk; subst hk
    split at h
    · exact dc_X0_pairsAt_41 _ _ _ _ h
    · cases h
  split at h
  · rename_i hk; subst hk
    split at h
    · exact dc_X0_bring_41 _ _ _ _ _ h
    · cases h
  split at h
  · rename_i hk; subst hk
    split at h
    · exact dc_X0_pairsThatMove_41 _ _ _ _ _ _ h
    · cases h
  split at h
  · rename_i hk; subst hk
    split at h
    · exact dc_J7_fill_d0a16_43 _ _ _ _ h
    · cases h
  cases h
noncomputable def XB_X0_goOn_41_1 (c1 : Int → Int → Int → am_M → am_Rs) (c9 : am_M → am_Rs) (v1 v2 v3 : Int) (M : am_M) : am_Rs :=
  if wI (M 11 0) < wI v3 then
   c9 M
  else if wI v3 = wI v2 then
   if wI v3 = wI v2 then
    (X_X0_pairsAt_41 v3 M).bind fun z1 =>
    (X_X0_bring_41 (v3 - 1) (0 * z1.1) z1.2).bind fun z2 =>
    (X_X0_pairsAt_41 v3 z2.2).bind fun z3 =>
    (X_X0_bring_41 v3 ((wI ((16 - 0) - 0)) * z3.1) z3.2).bind fun z4 =>
    (X_X0_pairsAt_41 v3 z4.2).bind fun z5 =>
    (X_X0_bring_41 (v3 + 1) (0 * z5.1) z5.2).bind fun z6 =>
    c1 v1 v2 (v3 + 1) z6.2
   else (X_X0_pairsThatMove_41 v3 1 v1 M).bind fun z1 =>
   (X_X0_pairsAt_41 v3 z1.2).bind fun z2 =>
   (X_X0_bring_41 (v3 - 1) (0 * z2.1) z2.2).bind fun z3 =>
   (X_X0_pairsAt_41 v3 z3.2).bind fun z4 =>
   (X_X0_bring_41 v3 ((wI ((16 - 0) - z1.1)) * z4.1) z4.2).bind fun z5 =>
   (X_X0_pairsAt_41 v3 z5.2).bind fun z6 =>
   (X_X0_bring_41 (v3 + 1) ((wI z1.1) * z6.1) z6.2).bind fun z7 =>
   c1 v1 v2 (v3 + 1) z7.2
  else (X_X0_pairsThatMove_41 v3 (-1) v1 M).bind fun z1 =>
  if wI v3 = wI v2 then
   (X_X0_pairsAt_41 v3 z1.2).bind fun z2 =>
   (X_X0_bring_41 (v3 - 1) ((wI z1.1) * z2.1) z2.2).bind fun z3 =>
   (X_X0_pairsAt_41 v3 z3.2).bind fun z4 =>
   (X_X0_bring_41 v3 ((wI ((16 - z1.1) - 0)) * z4.1) z4.2).bind fun z5 =>
   (X_X0_pairsAt_41 v3 z5.2).bind fun z6 =>
   (X_X0_bring_41 (v3 + 1) (0 * z6.1) z6.2).bind fun z7 =>
   c1 v1 v2 (v3 + 1) z7.2
  else (X_X0_pairsThatMove_41 v3 1 v1 z1.2).bind fun z2 =>
  (X_X0_pairsAt_41 v3 z2.2).bind fun z3 =>
  (X_X0_bring_41 (v3 - 1) ((wI z1.1) * z3.1) z3.2).bind fun z4 =>
  (X_X0_pairsAt_41 v3 z4.2).bind fun z5 =>
  (X_X0_bring_41 v3 ((wI ((16 - z1.1) - z2.1)) * z5.1) z5.2).bind fun z6 =>
  (X_X0_pairsAt_41 v3 z6.2).bind fun z7 =>
  (X_X0_bring_41 (v3 + 1) ((wI z2.1) * z7.1) z7.2).bind fun z8 =>
  c1 v1 v2 (v3 + 1) z8.2
set_option maxRecDepth 100000 in
theorem rs_X0_goOn_41_1 {x : Int} {M' : am_M} {c1 : Int → Int → Int → am_M → am_Rs} {c9 : am_M → am_Rs} (h1 : ∀ w1 w2 w3 M, c1 w1 w2 w3 M = some (x, M') → am_R none 8 bk_X0_goOn 1 (am_wr [44, 1, 1, 1, 0, 0] [w1, w2, w3]) [] SH M (am_rv (am_rk 8) x) SH M') (h9 : ∀ M, c9 M = some (x, M') → am_R none 8 bk_X0_goOn 9 (am_wr [44, 0, 0, 0, 0, 0] []) [] SH M (am_rv (am_rk 8) x) SH M') (v1 v2 v3 : Int) (M : am_M) (h : XB_X0_goOn_41_1 c1 c9 v1 v2 v3 M = some (x, M')) : am_R none 8 bk_X0_goOn 1 (am_wr [44, 1, 1, 1, 0, 0] [v1, v2, v3]) [] SH M (am_rv (am_rk 8) x) SH M' :=
  vRegion (sc := none) (sh := SH) (F := F_X0_goOn_41) (k := 8) (bs := bk_X0_goOn) (r := (x, M')) (C := fun t lv st M => if t = 1 then vCt [44, 1, 1, 1, 0, 0] (un3 c1) lv st M else if t = 9 then vCt [44, 0, 0, 0, 0, 0] (un0 c9) lv st M else none) ok_X0_goOn fs_X0_goOn_41 (fun t lv st M h => by
    split at h
    · rename_i e; subst e; exact vCt_s (un3_s h1) h
    split at h
    · rename_i e; subst e; exact vCt_s (un0_s h9) h
    cases h) 12 1 (am_wr [44, 1, 1, 1, 0, 0] [v1, v2, v3]) [] M h
noncomputable def XB_X0_goOn_41_9 (M : am_M) : am_Rs :=
  some (0, (am_cpy M 43 42 0 0 13))
set_option maxRecDepth 100000 in
theorem rs_X0_goOn_41_9 {x : Int} {M' : am_M} (M : am_M) (h : XB_X0_goOn_41_9 M = some (x, M')) : am_R none 8 bk_X0_goOn 9 (am_wr [44, 0, 0, 0, 0, 0] []) [] SH M (am_rv (am_rk 8) x) SH M' :=
  vRegion (sc := none) (sh := SH) (F := F_X0_goOn_41) (k := 8) (bs := bk_X0_goOn) (r := (x, M')) (C := fun t lv st M => none) ok_X0_goOn fs_X0_goOn_41 (fun t lv st M h => by
    cases h) 12 9 (am_wr [44, 0, 0, 0, 0, 0] []) [] M h
noncomputable def XB_X0_goOn_41_e (c1 : Int → Int → Int → am_M → am_Rs) (v1 v2 : Int) (M : am_M) : am_Rs :=
  (X_J7_fill_d0a16_43 0 M).bind fun z1 =>
  c1 v1 v2 0 z1.2
set_option maxRecDepth 100000 in
theorem rs_X0_goOn_41_e {x : Int} {M' : am_M} {c1 : Int → Int → Int → am_M → am_Rs} (h1 : ∀ w1 w2 w3 M, c1 w1 w2 w3 M = some (x, M') → am_R none 8 bk_X0_goOn 1 (am_wr [44, 1, 1, 1, 0, 0] [w1, w2, w3]) [] SH M (am_rv (am_rk 8) x) SH M') (v1 v2 : Int) (M : am_M) (h : XB_X0_goOn_41_e c1 v1 v2 M = some (x, M')) : am_R none 8 bk_X0_goOn 0 (am_ent 6 [.inr (.inr (some 41)), .inl v1, .inl v2]) [] SH M (am_rv (am_rk 8) x) SH M' :=
  vRegion (sc := none) (sh := SH) (F := F_X0_goOn_41) (k := 8) (bs := bk_X0_goOn) (r := (x, M')) (C := fun t lv st M => if t = 1 then vCt [44, 1, 1, 1, 0, 0] (un3 c1) lv st M else none) ok_X0_goOn fs_X0_goOn_41 (fun t lv st M h => by
    split at h
    · rename_i e; subst e; exact vCt_s (un3_s h1) h
    cases h) 12 0 (am_ent 6 [.inr (.inr (some 41)), .inl v1, .inl v2]) [] M h
noncomputable def XL_X0_goOn_41_1 (k9 : am_M → am_Rs) : Nat → Int → Int → Int → am_M → am_Rs
  | 0, _, _, _, _ => none
  | n + 1, v1, v2, v3, M => XB_X0_goOn_41_1 (XL_X0_goOn_41_1 k9 n) k9 v1 v2 v3 M
theorem ls_X0_goOn_41_1 {x : Int} {M' : am_M} {k9 : am_M → am_Rs} (hk9 : ∀ M, k9 M = some (x, M') → am_R none 8 bk_X0_goOn 9 (am_wr [44, 0, 0, 0, 0, 0] []) [] SH M (am_rv (am_rk 8) x) SH M') : ∀ (n : Nat) (v1 v2 v3 : Int) (M : am_M), XL_X0_goOn_41_1 k9 n v1 v2 v3 M = some (x, M') → am_R none 8 bk_X0_goOn 1 (am_wr [44, 1, 1, 1, 0, 0] [v1, v2, v3]) [] SH M (am_rv (am_rk 8) x) SH M'
  | 0, v1, v2, v3, M, h => by cases h
  | n + 1, v1, v2, v3, M, h => rs_X0_goOn_41_1 (ls_X0_goOn_41_1 hk9 n) hk9 v1 v2 v3 M h
noncomputable def X_X0_goOn_41 (v1 v2 : Int) (M : am_M) : am_Rs := XB_X0_goOn_41_e (XL_X0_goOn_41_1 (XB_X0_goOn_41_9) 1000) v1 v2 M
theorem dc_X0_goOn_41 (v1 v2 : Int) (M M' : am_M) (x : Int) (h : X_X0_goOn_41 v1 v2 M = some (x, M')) : am_Calls 8 [.inr (.inr (some 41)), .inl v1, .inl v2] SH M (am_rv (am_rk 8) x) SH M' :=
  am_enter pn_X0_goOn ml_X0_goOn rfl (Nat.le_of_ble_eq_true rfl) ⟨Nat.le_refl _, Nat.le_refl _⟩ (rs_X0_goOn_41_e (ls_X0_goOn_41_1 (rs_X0_goOn_41_9) 1000) v1 v2 M h)
noncomputable def F_X0_pairsEndingAt_41 : Nat → List am_V → am_M → am_Rs := fun k as M => if k = 6 then (match as with
  | [.inr (.inr (some 41))] => X_X0_begin_41 M
  | _ => none) else if k = 7 then (match as with
  | [.inr (.inr (some 41)), .inl a1] => X_X0_pairsAt_41 a1 M
  | _ => none) else if k = 8 then (match as with
  | [.inr (.inr (some 41)), .inl a1, .inl a2] => X_X0_goOn_41 a1 a2 M
  | _ => none) else none
theorem fs_X0_pairsEndingAt_41 : am_FS SH F_X0_pairsEndingAt_41 := by
  intro k as M x M' h
  unfold F_X0_pairsEndingAt_41 at h
  split at h
  · rename_i hk; subst hk
    split at h
    · exact dc_X0_begin_41 _ _ _ h
    · cases h
  split at h
  · rename_i hk; subst hk
    split at h
    · exact dc_X0_pairsAt_41 _ _ _ _ h
    · cases h
  split at h
  · rename_i hk; subst hk
    split at h
    · exact dc_X0_goOn_41 _ _ _ _ _ h
    · cases h
  cases h
noncomputable def XB_X0_pairsEndingAt_41_1 (c1 : Int → Int → Int → am_M → am_Rs) (c3 : Int → am_M → am_Rs) (v1 v2 v3 : Int) (M : am_M) : am_Rs :=
  if wI v3 < wI v2 then
   (X_X0_goOn_41 ((M 14 0) + v3) (-1) M).bind fun z1 =>
   c1 v1 v2 (v3 + 1) z1.2
  else c3 v1 M
set_option maxRecDepth 100000 in
theorem rs_X0_pairsEndingAt_41_1 {x : Int} {M' : am_M} {c1 : Int → Int → Int → am_M → am_Rs} {c3 : Int → am_M → am_Rs} (h1 : ∀ w1 w2 w3 M, c1 w1 w2 w3 M = some (x, M') → am_R none 2 bk_X0_pairsEndingAt 1 (am_wr [44, 1, 1, 1] [w1, w2, w3]) [] SH M (am_rv (am_rk 2) x) SH M') (h3 : ∀ w1 M, c3 w1 M = some (x, M') → am_R none 2 bk_X0_pairsEndingAt 3 (am_wr [44, 1, 0, 0] [w1]) [] SH M (am_rv (am_rk 2) x) SH M') (v1 v2 v3 : Int) (M : am_M) (h : XB_X0_pairsEndingAt_41_1 c1 c3 v1 v2 v3 M = some (x, M')) : am_R none 2 bk_X0_pairsEndingAt 1 (am_wr [44, 1, 1, 1] [v1, v2, v3]) [] SH M (am_rv (am_rk 2) x) SH M' :=
  vRegion (sc := none) (sh := SH) (F := F_X0_pairsEndingAt_41) (k := 2) (bs := bk_X0_pairsEndingAt) (r := (x, M')) (C := fun t lv st M => if t = 1 then vCt [44, 1, 1, 1] (un3 c1) lv st M else if t = 3 then vCt [44, 1, 0, 0] (un1 c3) lv st M else none) ok_X0_pairsEndingAt fs_X0_pairsEndingAt_41 (fun t lv st M h => by
    split at h
    · rename_i e; subst e; exact vCt_s (un3_s h1) h
    split at h
    · rename_i e; subst e; exact vCt_s (un1_s h3) h
    cases h) 6 1 (am_wr [44, 1, 1, 1] [v1, v2, v3]) [] M h
noncomputable def XB_X0_pairsEndingAt_41_3 (v1 : Int) (M : am_M) : am_Rs :=
  (X_X0_pairsAt_41 v1 M).bind fun z1 =>
  some (z1.1, z1.2)
set_option maxRecDepth 100000 in
theorem rs_X0_pairsEndingAt_41_3 {x : Int} {M' : am_M} (v1 : Int) (M : am_M) (h : XB_X0_pairsEndingAt_41_3 v1 M = some (x, M')) : am_R none 2 bk_X0_pairsEndingAt 3 (am_wr [44, 1, 0, 0] [v1]) [] SH M (am_rv (am_rk 2) x) SH M' :=
  vRegion (sc := none) (sh := SH) (F := F_X0_pairsEndingAt_41) (k := 2) (bs := bk_X0_pairsEndingAt) (r := (x, M')) (C := fun t lv st M => none) ok_X0_pairsEndingAt fs_X0_pairsEndingAt_41 (fun t lv st M h => by
    cases h) 6 3 (am_wr [44, 1, 0, 0] [v1]) [] M h
noncomputable def XB_X0_pairsEndingAt_41_e (c1 : Int → Int → Int → am_M → am_Rs) (v1 v2 : Int) (M : am_M) : am_Rs :=
  (X_X0_begin_41 M).bind fun z1 =>
  c1 v1 v2 0 z1.2
set_option maxRecDepth 100000 in
theorem rs_X0_pairsEndingAt_41_e {x : Int} {M' : am_M} {c1 : Int → Int → Int → am_M → am_Rs} (h1 : ∀ w1 w2 w3 M, c1 w1 w2 w3 M = some (x, M') → am_R none 2 bk_X0_pairsEndingAt 1 (am_wr [44, 1, 1, 1] [w1, w2, w3]) [] SH M (am_rv (am_rk 2) x) SH M') (v1 v2 : Int) (M : am_M) (h : XB_X0_pairsEndingAt_41_e c1 v1 v2 M = some (x, M')) : am_R none 2 bk_X0_pairsEndingAt 0 (am_ent 4 [.inr (.inr (some 41)), .inl v1, .inl v2]) [] SH M (am_rv (am_rk 2) x) SH M' :=
  vRegion (sc := none) (sh := SH) (F := F_X0_pairsEndingAt_41) (k := 2) (bs := bk_X0_pairsEndingAt) (r := (x, M')) (C := fun t lv st M => if t = 1 then vCt [44, 1, 1, 1] (un3 c1) lv st M else none) ok_X0_pairsEndingAt fs_X0_pairsEndingAt_41 (fun t lv st M h => by
    split at h
    · rename_i e; subst e; exact vCt_s (un3_s h1) h
    cases h) 6 0 (am_ent 4 [.inr (.inr (some 41)), .inl v1, .inl v2]) [] M h
noncomputable def XL_X0_pairsEndingAt_41_1 (k3 : Int → am_M → am_Rs) : Nat → Int → Int → Int → am_M → am_Rs
  | 0, _, _, _, _ => none
  | n + 1, v1, v2, v3, M => XB_X0_pairsEndingAt_41_1 (XL_X0_pairsEndingAt_41_1 k3 n) k3 v1 v2 v3 M
theorem ls_X0_pairsEndingAt_41_1 {x : Int} {M' : am_M} {k3 : Int → am_M → am_Rs} (hk3 : ∀ w1 M, k3 w1 M = some (x, M') → am_R none 2 bk_X0_pairsEndingAt 3 (am_wr [44, 1, 0, 0] [w1]) [] SH M (am_rv (am_rk 2) x) SH M') : ∀ (n : Nat) (v1 v2 v3 : Int) (M : am_M), XL_X0_pairsEndingAt_41_1 k3 n v1 v2 v3 M = some (x, M') → am_R none 2 bk_X0_pairsEndingAt 1 (am_wr [44, 1, 1, 1] [v1, v2, v3]) [] SH M (am_rv (am_rk 2) x) SH M'
  | 0, v1, v2, v3, M, h => by cases h
  | n + 1, v1, v2, v3, M, h => rs_X0_pairsEndingAt_41_1 (ls_X0_pairsEndingAt_41_1 hk3 n) hk3 v1 v2 v3 M h
noncomputable def X_X0_pairsEndingAt_41 (v1 v2 : Int) (M : am_M) : am_Rs := XB_X0_pairsEndingAt_41_e (XL_X0_pairsEndingAt_41_1 (XB_X0_pairsEndingAt_41_3) 1000) v1 v2 M
theorem dc_X0_pairsEndingAt_41 (v1 v2 : Int) (M M' : am_M) (x : Int) (h : X_X0_pairsEndingAt_41 v1 v2 M = some (x, M')) : am_Calls 2 [.inr (.inr (some 41)), .inl v1, .inl v2] SH M (am_rv (am_rk 2) x) SH M' :=
  am_enter pn_X0_pairsEndingAt ml_X0_pairsEndingAt rfl (Nat.le_of_ble_eq_true rfl) ⟨Nat.le_refl _, Nat.le_refl _⟩ (rs_X0_pairsEndingAt_41_e (ls_X0_pairsEndingAt_41_1 (rs_X0_pairsEndingAt_41_3) 1000) v1 v2 M h)
noncomputable def XB_X0_pairsIn_1 (c1 : Int → Int → Int → am_M → am_Rs) (c3 : Int → am_M → am_Rs) (v0 v1 v3 : Int) (M : am_M) : am_Rs :=
  if wI v3 < wI v0 then
   c1 v0 (v1 * 16) (v3 + 1) M
  else c3 v1 M
set_option maxRecDepth 100000 in
theorem rs_X0_pairsIn_1 {x : Int} {M' : am_M} {c1 : Int → Int → Int → am_M → am_Rs} {c3 : Int → am_M → am_Rs} (h1 : ∀ w0 w1 w3 M, c1 w0 w1 w3 M = some (x, M') → am_R none 1 bk_X0_pairsIn 1 (am_wr [1, 2, 0, 1] [w0, w1, w3]) [] SH M (am_rv (am_rk 1) x) SH M') (h3 : ∀ w1 M, c3 w1 M = some (x, M') → am_R none 1 bk_X0_pairsIn 3 (am_wr [0, 2, 0, 0] [w1]) [] SH M (am_rv (am_rk 1) x) SH M') (v0 v1 v3 : Int) (M : am_M) (h : XB_X0_pairsIn_1 c1 c3 v0 v1 v3 M = some (x, M')) : am_R none 1 bk_X0_pairsIn 1 (am_wr [1, 2, 0, 1] [v0, v1, v3]) [] SH M (am_rv (am_rk 1) x) SH M' :=
  vRegion (sc := none) (sh := SH) (F := F_none) (k := 1) (bs := bk_X0_pairsIn) (r := (x, M')) (C := fun t lv st M => if t = 1 then vCt [1, 2, 0, 1] (un3 c1) lv st M else if t = 3 then vCt [0, 2, 0, 0] (un1 c3) lv st M else none) ok_X0_pairsIn fs_none (fun t lv st M h => by
    split at h
    · rename_i e; subst e; exact vCt_s (un3_s h1) h
    split at h
    · rename_i e; subst e; exact vCt_s (un1_s h3) h
    cases h) 6 1 (am_wr [1, 2, 0, 1] [v0, v1, v3]) [] M h
noncomputable def XB_X0_pairsIn_3 (v1 : Int) (M : am_M) : am_Rs :=
  some (v1, M)
set_option maxRecDepth 100000 in
theorem rs_X0_pairsIn_3 {x : Int} {M' : am_M} (v1 : Int) (M : am_M) (h : XB_X0_pairsIn_3 v1 M = some (x, M')) : am_R none 1 bk_X0_pairsIn 3 (am_wr [0, 2, 0, 0] [v1]) [] SH M (am_rv (am_rk 1) x) SH M' :=
  vRegion (sc := none) (sh := SH) (F := F_none) (k := 1) (bs := bk_X0_pairsIn) (r := (x, M')) (C := fun t lv st M => none) ok_X0_pairsIn fs_none (fun t lv st M h => by
    cases h) 6 3 (am_wr [0, 2, 0, 0] [v1]) [] M h
noncomputable def XB_X0_pairsIn_e (c1 : Int → Int → Int → am_M → am_Rs) (v0 : Int) (M : am_M) : am_Rs :=
  c1 v0 1 0 M
set_option maxRecDepth 100000 in
theorem rs_X0_pairsIn_e {x : Int} {M' : am_M} {c1 : Int → Int → Int → am_M → am_Rs} (h1 : ∀ w0 w1 w3 M, c1 w0 w1 w3 M = some (x, M') → am_R none 1 bk_X0_pairsIn 1 (am_wr [1, 2, 0, 1] [w0, w1, w3]) [] SH M (am_rv (am_rk 1) x) SH M') (v0 : Int) (M : am_M) (h : XB_X0_pairsIn_e c1 v0 M = some (x, M')) : am_R none 1 bk_X0_pairsIn 0 (am_ent 4 [.inl v0]) [] SH M (am_rv (am_rk 1) x) SH M' :=
  vRegion (sc := none) (sh := SH) (F := F_none) (k := 1) (bs := bk_X0_pairsIn) (r := (x, M')) (C := fun t lv st M => if t = 1 then vCt [1, 2, 0, 1] (un3 c1) lv st M else none) ok_X0_pairsIn fs_none (fun t lv st M h => by
    split at h
    · rename_i e; subst e; exact vCt_s (un3_s h1) h
    cases h) 6 0 (am_ent 4 [.inl v0]) [] M h
noncomputable def XL_X0_pairsIn_1 (k3 : Int → am_M → am_Rs) : Nat → Int → Int → Int → am_M → am_Rs
  | 0, _, _, _, _ => none
  | n + 1, v0, v1, v3, M => XB_X0_pairsIn_1 (XL_X0_pairsIn_1 k3 n) k3 v0 v1 v3 M
theorem ls_X0_pairsIn_1 {x : Int} {M' : am_M} {k3 : Int → am_M → am_Rs} (hk3 : ∀ w1 M, k3 w1 M = some (x, M') → am_R none 1 bk_X0_pairsIn 3 (am_wr [0, 2, 0, 0] [w1]) [] SH M (am_rv (am_rk 1) x) SH M') : ∀ (n : Nat) (v0 v1 v3 : Int) (M : am_M), XL_X0_pairsIn_1 k3 n v0 v1 v3 M = some (x, M') → am_R none 1 bk_X0_pairsIn 1 (am_wr [1, 2, 0, 1] [v0, v1, v3]) [] SH M (am_rv (am_rk 1) x) SH M'
  | 0, v0, v1, v3, M, h => by cases h
  | n + 1, v0, v1, v3, M, h => rs_X0_pairsIn_1 (ls_X0_pairsIn_1 hk3 n) hk3 v0 v1 v3 M h
noncomputable def X_X0_pairsIn (v0 : Int) (M : am_M) : am_Rs := XB_X0_pairsIn_e (XL_X0_pairsIn_1 (XB_X0_pairsIn_3) 1000) v0 M
theorem dc_X0_pairsIn (v0 : Int) (M M' : am_M) (x : Int) (h : X_X0_pairsIn v0 M = some (x, M')) : am_Calls 1 [.inl v0] SH M (am_rv (am_rk 1) x) SH M' :=
  am_enter pn_X0_pairsIn ml_X0_pairsIn rfl (Nat.le_of_ble_eq_true rfl) ⟨Nat.le_refl _, Nat.le_refl _⟩ (rs_X0_pairsIn_e (ls_X0_pairsIn_1 (rs_X0_pairsIn_3) 1000) v0 M h)
noncomputable def F_X8_odds_0 : Nat → List am_V → am_M → am_Rs := fun k as M => if k = 1 then (match as with
  | [.inl a0] => X_X0_pairsIn a0 M
  | _ => none) else if k = 2 then (match as with
  | [.inr (.inr (some 41)), .inl a1, .inl a2] => X_X0_pairsEndingAt_41 a1 a2 M
  | _ => none) else if k = 34 then (match as with
  | [.inr (.inr (some 11)), .inl a1] => X_X2_isPlace_11 a1 M
  | _ => none) else if k = 156 then (match as with
  | [.inr (.inr (some 0)), .inr (.inl a1), .inr (.inl a3)] => X_X8_tellChance_0 a1 a3 M
  | _ => none) else if k = 158 then (match as with
  | [.inr (.inr (some 0))] => X_X8_hasNoLand_0 M
  | _ => none) else if k = 161 then (match as with
  | [.inl a0] => X_X8_isChanceLength a0 M
  | _ => none) else none
theorem fs_X8_odds_0 : am_FS SH F_X8_odds_0 := by
  intro k as M x M' h
  unfold F_X8_odds_0 at h
  split at h
  · rename_i hk; subst hk
    split at h
    · exact dc_X0_pairsIn _ _ _ _ h
    · cases h
  split at h
  · rename_i hk; subst hk
    split at h
    · exact dc_X0_pairsEndingAt_41 _ _ _ _ _ h
    · cases h
  split at h
  · rename_i hk; subst hk
    split at h
    · exact dc_X2_isPlace_11 _ _ _ _ h
    · cases h
  split at h
  · rename_i hk; subst hk
    split at h
    · exact dc_X8_tellChance_0 _ _ _ _ _ h
    · cases h
  split at h
  · rename_i hk; subst hk
    split at h
    · exact dc_X8_hasNoLand_0 _ _ _ h
    · cases h
  split at h
  · rename_i hk; subst hk
    split at h
    · exact dc_X8_isChanceLength _ _ _ _ h
    · cases h
  cases h
noncomputable def X_X8_odds_0 (v1 v2 : Int) (M : am_M) : am_Rs :=
  (X_X2_isPlace_11 v1 M).bind fun z1 =>
  if wI z1.1 = 0 then
   some ((-1), z1.2)
  else (X_X8_isChanceLength v2 z1.2).bind fun z2 =>
  if wI z2.1 = 0 then
   some ((-1), z2.2)
  else (X_X8_hasNoLand_0 z2.2).bind fun z3 =>
  if wI z3.1 = 0 then
   (X_X0_pairsEndingAt_41 v1 v2 z3.2).bind fun z4 =>
   (X_X0_pairsIn v2 z4.2).bind fun z5 =>
   (X_X8_tellChance_0 z4.1 z5.1 z5.2).bind fun z6 =>
   some (z6.1, z6.2)
  else some ((-4), z3.2)
set_option maxRecDepth 100000 in
theorem dc_X8_odds_0 (v1 v2 : Int) (M M' : am_M) (x : Int) (h : X_X8_odds_0 v1 v2 M = some (x, M')) : am_Calls 137 [.inr (.inr (some 0)), .inl v1, .inl v2] SH M (am_rv (am_rk 137) x) SH M' :=
  vCall (F := F_X8_odds_0) (C := fun _ _ _ _ => none) (fu := 8) ok_X8_odds pn_X8_odds ml_X8_odds rfl (Nat.le_of_ble_eq_true rfl) fs_X8_odds_0 (fun _ _ _ _ h => by cases h) h
noncomputable def F_X0_pairsMeeting_41 : Nat → List am_V → am_M → am_Rs := fun k as M => if k = 6 then (match as with
  | [.inr (.inr (some 41))] => X_X0_begin_41 M
  | _ => none) else if k = 7 then (match as with
  | [.inr (.inr (some 41)), .inl a1] => X_X0_pairsAt_41 a1 M
  | _ => none) else if k = 8 then (match as with
  | [.inr (.inr (some 41)), .inl a1, .inl a2] => X_X0_goOn_41 a1 a2 M
  | _ => none) else none
theorem fs_X0_pairsMeeting_41 : am_FS SH F_X0_pairsMeeting_41 := by
  intro k as M x M' h
  unfold F_X0_pairsMeeting_41 at h
  split at h
  · rename_i hk; subst hk
    split at h
    · exact dc_X0_begin_41 _ _ _ h
    · cases h
  split at h
  · rename_i hk; subst hk
    split at h
    · exact dc_X0_pairsAt_41 _ _ _ _ h
    · cases h
  split at h
  · rename_i hk; subst hk
    split at h
    · exact dc_X0_goOn_41 _ _ _ _ _ h
    · cases h
  cases h
noncomputable def XB_X0_pairsMeeting_41_1 (c1 : Int → Int → Int → am_M → am_Rs) (c3 : Int → am_M → am_Rs) (v1 v2 v3 : Int) (M : am_M) : am_Rs :=
  if wI v3 < wI v2 then
   (X_X0_goOn_41 ((M 14 0) + v3) v1 M).bind fun z1 =>
   c1 v1 v2 (v3 + 1) z1.2
  else c3 v1 M
set_option maxRecDepth 100000 in
theorem rs_X0_pairsMeeting_41_1 {x : Int} {M' : am_M} {c1 : Int → Int → Int → am_M → am_Rs} {c3 : Int → am_M → am_Rs} (h1 : ∀ w1 w2 w3 M, c1 w1 w2 w3 M = some (x, M') → am_R none 3 bk_X0_pairsMeeting 1 (am_wr [44, 1, 1, 1] [w1, w2, w3]) [] SH M (am_rv (am_rk 3) x) SH M') (h3 : ∀ w1 M, c3 w1 M = some (x, M') → am_R none 3 bk_X0_pairsMeeting 3 (am_wr [44, 1, 0, 0] [w1]) [] SH M (am_rv (am_rk 3) x) SH M') (v1 v2 v3 : Int) (M : am_M) (h : XB_X0_pairsMeeting_41_1 c1 c3 v1 v2 v3 M = some (x, M')) : am_R none 3 bk_X0_pairsMeeting 1 (am_wr [44, 1, 1, 1] [v1, v2, v3]) [] SH M (am_rv (am_rk 3) x) SH M' :=
  vRegion (sc := none) (sh := SH) (F := F_X0_pairsMeeting_41) (k := 3) (bs := bk_X0_pairsMeeting) (r := (x, M')) (C := fun t lv st M => if t = 1 then vCt [44, 1, 1, 1] (un3 c1) lv st M else if t = 3 then vCt [44, 1, 0, 0] (un1 c3) lv st M else none) ok_X0_pairsMeeting fs_X0_pairsMeeting_41 (fun t lv st M h => by
    split at h
    · rename_i e; subst e; exact vCt_s (un3_s h1) h
    split at h
    · rename_i e; subst e; exact vCt_s (un1_s h3) h
    cases h) 6 1 (am_wr [44, 1, 1, 1] [v1, v2, v3]) [] M h
noncomputable def XB_X0_pairsMeeting_41_3 (v1 : Int) (M : am_M) : am_Rs :=
  (X_X0_pairsAt_41 v1 M).bind fun z1 =>
  some (z1.1, z1.2)
set_option maxRecDepth 100000 in
theorem rs_X0_pairsMeeting_41_3 {x : Int} {M' : am_M} (v1 : Int) (M : am_M) (h : XB_X0_pairsMeeting_41_3 v1 M = some (x, M')) : am_R none 3 bk_X0_pairsMeeting 3 (am_wr [44, 1, 0, 0] [v1]) [] SH M (am_rv (am_rk 3) x) SH M' :=
  vRegion (sc := none) (sh := SH) (F := F_X0_pairsMeeting_41) (k := 3) (bs := bk_X0_pairsMeeting) (r := (x, M')) (C := fun t lv st M => none) ok_X0_pairsMeeting fs_X0_pairsMeeting_41 (fun t lv st M h => by
    cases h) 6 3 (am_wr [44, 1, 0, 0] [v1]) [] M h
noncomputable def XB_X0_pairsMeeting_41_e (c1 : Int → Int → Int → am_M → am_Rs) (v1 v2 : Int) (M : am_M) : am_Rs :=
  (X_X0_begin_41 M).bind fun z1 =>
  c1 v1 v2 0 z1.2
set_option maxRecDepth 100000 in
theorem rs_X0_pairsMeeting_41_e {x : Int} {M' : am_M} {c1 : Int → Int → Int → am_M → am_Rs} (h1 : ∀ w1 w2 w3 M, c1 w1 w2 w3 M = some (x, M') → am_R none 3 bk_X0_pairsMeeting 1 (am_wr [44, 1, 1, 1] [w1, w2, w3]) [] SH M (am_rv (am_rk 3) x) SH M') (v1 v2 : Int) (M : am_M) (h : XB_X0_pairsMeeting_41_e c1 v1 v2 M = some (x, M')) : am_R none 3 bk_X0_pairsMeeting 0 (am_ent 4 [.inr (.inr (some 41)), .inl v1, .inl v2]) [] SH M (am_rv (am_rk 3) x) SH M' :=
  vRegion (sc := none) (sh := SH) (F := F_X0_pairsMeeting_41) (k := 3) (bs := bk_X0_pairsMeeting) (r := (x, M')) (C := fun t lv st M => if t = 1 then vCt [44, 1, 1, 1] (un3 c1) lv st M else none) ok_X0_pairsMeeting fs_X0_pairsMeeting_41 (fun t lv st M h => by
    split at h
    · rename_i e; subst e; exact vCt_s (un3_s h1) h
    cases h) 6 0 (am_ent 4 [.inr (.inr (some 41)), .inl v1, .inl v2]) [] M h
noncomputable def XL_X0_pairsMeeting_41_1 (k3 : Int → am_M → am_Rs) : Nat → Int → Int → Int → am_M → am_Rs
  | 0, _, _, _, _ => none
  | n + 1, v1, v2, v3, M => XB_X0_pairsMeeting_41_1 (XL_X0_pairsMeeting_41_1 k3 n) k3 v1 v2 v3 M
theorem ls_X0_pairsMeeting_41_1 {x : Int} {M' : am_M} {k3 : Int → am_M → am_Rs} (hk3 : ∀ w1 M, k3 w1 M = some (x, M') → am_R none 3 bk_X0_pairsMeeting 3 (am_wr [44, 1, 0, 0] [w1]) [] SH M (am_rv (am_rk 3) x) SH M') : ∀ (n : Nat) (v1 v2 v3 : Int) (M : am_M), XL_X0_pairsMeeting_41_1 k3 n v1 v2 v3 M = some (x, M') → am_R none 3 bk_X0_pairsMeeting 1 (am_wr [44, 1, 1, 1] [v1, v2, v3]) [] SH M (am_rv (am_rk 3) x) SH M'
  | 0, v1, v2, v3, M, h => by cases h
  | n + 1, v1, v2, v3, M, h => rs_X0_pairsMeeting_41_1 (ls_X0_pairsMeeting_41_1 hk3 n) hk3 v1 v2 v3 M h
noncomputable def X_X0_pairsMeeting_41 (v1 v2 : Int) (M : am_M) : am_Rs := XB_X0_pairsMeeting_41_e (XL_X0_pairsMeeting_41_1 (XB_X0_pairsMeeting_41_3) 1000) v1 v2 M
theorem dc_X0_pairsMeeting_41 (v1 v2 : Int) (M M' : am_M) (x : Int) (h : X_X0_pairsMeeting_41 v1 v2 M = some (x, M')) : am_Calls 3 [.inr (.inr (some 41)), .inl v1, .inl v2] SH M (am_rv (am_rk 3) x) SH M' :=
  am_enter pn_X0_pairsMeeting ml_X0_pairsMeeting rfl (Nat.le_of_ble_eq_true rfl) ⟨Nat.le_refl _, Nat.le_refl _⟩ (rs_X0_pairsMeeting_41_e (ls_X0_pairsMeeting_41_1 (rs_X0_pairsMeeting_41_3) 1000) v1 v2 M h)
noncomputable def F_X8_met_0 : Nat → List am_V → am_M → am_Rs := fun k as M => if k = 1 then (match as with
  | [.inl a0] => X_X0_pairsIn a0 M
  | _ => none) else if k = 3 then (match as with
  | [.inr (.inr (some 41)), .inl a1, .inl a2] => X_X0_pairsMeeting_41 a1 a2 M
  | _ => none) else if k = 34 then (match as with
  | [.inr (.inr (some 11)), .inl a1] => X_X2_isPlace_11 a1 M
  | _ => none) else if k = 156 then (match as with
  | [.inr (.inr (some 0)), .inr (.inl a1), .inr (.inl a3)] => X_X8_tellChance_0 a1 a3 M
  | _ => none) else if k = 158 then (match as with
  | [.inr (.inr (some 0))] => X_X8_hasNoLand_0 M
  | _ => none) else if k = 161 then (match as with
  | [.inl a0] => X_X8_isChanceLength a0 M
  | _ => none) else none
theorem fs_X8_met_0 : am_FS SH F_X8_met_0 := by
  intro k as M x M' h
  unfold F_X8_met_0 at h
  split at h
  · rename_i hk; subst hk
    split at h
    · exact dc_X0_pairsIn _ _ _ _ h
    · cases h
  split at h
  · rename_i hk; subst hk
    split at h
    · exact dc_X0_pairsMeeting_41 _ _ _ _ _ h
    · cases h
  split at h
  · rename_i hk; subst hk
    split at h
    · exact dc_X2_isPlace_11 _ _ _ _ h
    · cases h
  split at h
  · rename_i hk; subst hk
    split at h
    · exact dc_X8_tellChance_0 _ _ _ _ _ h
    · cases h
  split at h
  · rename_i hk; subst hk
    split at h
    · exact dc_X8_hasNoLand_0 _ _ _ h
    · cases h
  split at h
  · rename_i hk; subst hk
    split at h
    · exact dc_X8_isChanceLength _ _ _ _ h
    · cases h
  cases h
noncomputable def X_X8_met_0 (v1 v2 : Int) (M : am_M) : am_Rs :=
  (X_X2_isPlace_11 v1 M).bind fun z1 =>
  if wI z1.1 = 0 then
   some ((-1), z1.2)
  else (X_X8_isChanceLength v2 z1.2).bind fun z2 =>
  if wI z2.1 = 0 then
   some ((-1), z2.2)
  else (X_X8_hasNoLand_0 z2.2).bind fun z3 =>
  if wI z3.1 = 0 then
   (X_X0_pairsMeeting_41 v1 v2 z3.2).bind fun z4 =>
   (X_X0_pairsIn v2 z4.2).bind fun z5 =>
   (X_X8_tellChance_0 z4.1 z5.1 z5.2).bind fun z6 =>
   some (z6.1, z6.2)
  else some ((-4), z3.2)
set_option maxRecDepth 100000 in
theorem dc_X8_met_0 (v1 v2 : Int) (M M' : am_M) (x : Int) (h : X_X8_met_0 v1 v2 M = some (x, M')) : am_Calls 138 [.inr (.inr (some 0)), .inl v1, .inl v2] SH M (am_rv (am_rk 138) x) SH M' :=
  vCall (F := F_X8_met_0) (C := fun _ _ _ _ => none) (fu := 8) ok_X8_met pn_X8_met ml_X8_met rfl (Nat.le_of_ble_eq_true rfl) fs_X8_met_0 (fun _ _ _ _ h => by cases h) h
noncomputable def F_X0_duesNow_41 : Nat → List am_V → am_M → am_Rs := fun k as M => if k = 7 then (match as with
  | [.inr (.inr (some 41)), .inl a1] => X_X0_pairsAt_41 a1 M
  | _ => none) else if k = 24 then (match as with
  | [.inr (.inr (some 14)), .inr (.inr (some 11)), .inl a2, .inl a3] => X_X1_dueOfBoth_14_11 a2 a3 M
  | _ => none) else none
theorem fs_X0_duesNow_41 : am_FS SH F_X0_duesNow_41 := by
  intro k as M x M' h
  unfold F_X0_duesNow_41 at h
  split at h
  · rename_i hk; subst hk
    split at h
    · exact dc_X0_pairsAt_41 _ _ _ _ h
    · cases h
  split at h
  · rename_i hk; subst hk
    split at h
    · exact dc_X1_dueOfBoth_14_11 _ _ _ _ _ h
    · cases h
  cases h
noncomputable def XB_X0_duesNow_41_1 (c1 : Int → Int → Int → am_M → am_Rs) (c3 : Int → am_M → am_Rs) (v1 v2 v4 : Int) (M : am_M) : am_Rs :=
  if wI (M 11 0) < wI v4 then
   c3 v2 M
  else (X_X0_pairsAt_41 v4 M).bind fun z1 =>
  (X_X1_dueOfBoth_14_11 v1 v4 z1.2).bind fun z2 =>
  c1 v1 (v2 + (z1.1 * (wI z2.1))) (v4 + 1) z2.2
set_option maxRecDepth 100000 in
theorem rs_X0_duesNow_41_1 {x : Int} {M' : am_M} {c1 : Int → Int → Int → am_M → am_Rs} {c3 : Int → am_M → am_Rs} (h1 : ∀ w1 w2 w4 M, c1 w1 w2 w4 M = some (x, M') → am_R none 5 bk_X0_duesNow 1 (am_wr [44, 1, 2, 0, 1] [w1, w2, w4]) [] SH M (am_rv (am_rk 5) x) SH M') (h3 : ∀ w2 M, c3 w2 M = some (x, M') → am_R none 5 bk_X0_duesNow 3 (am_wr [0, 0, 2, 0, 0] [w2]) [] SH M (am_rv (am_rk 5) x) SH M') (v1 v2 v4 : Int) (M : am_M) (h : XB_X0_duesNow_41_1 c1 c3 v1 v2 v4 M = some (x, M')) : am_R none 5 bk_X0_duesNow 1 (am_wr [44, 1, 2, 0, 1] [v1, v2, v4]) [] SH M (am_rv (am_rk 5) x) SH M' :=
  vRegion (sc := none) (sh := SH) (F := F_X0_duesNow_41) (k := 5) (bs := bk_X0_duesNow) (r := (x, M')) (C := fun t lv st M => if t = 1 then vCt [44, 1, 2, 0, 1] (un3 c1) lv st M else if t = 3 then vCt [0, 0, 2, 0, 0] (un1 c3) lv st M else none) ok_X0_duesNow fs_X0_duesNow_41 (fun t lv st M h => by
    split at h
    · rename_i e; subst e; exact vCt_s (un3_s h1) h
    split at h
    · rename_i e; subst e; exact vCt_s (un1_s h3) h
    cases h) 6 1 (am_wr [44, 1, 2, 0, 1] [v1, v2, v4]) [] M h
noncomputable def XB_X0_duesNow_41_3 (v2 : Int) (M : am_M) : am_Rs :=
  some (v2, M)
set_option maxRecDepth 100000 in
theorem rs_X0_duesNow_41_3 {x : Int} {M' : am_M} (v2 : Int) (M : am_M) (h : XB_X0_duesNow_41_3 v2 M = some (x, M')) : am_R none 5 bk_X0_duesNow 3 (am_wr [0, 0, 2, 0, 0] [v2]) [] SH M (am_rv (am_rk 5) x) SH M' :=
  vRegion (sc := none) (sh := SH) (F := F_X0_duesNow_41) (k := 5) (bs := bk_X0_duesNow) (r := (x, M')) (C := fun t lv st M => none) ok_X0_duesNow fs_X0_duesNow_41 (fun t lv st M h => by
    cases h) 6 3 (am_wr [0, 0, 2, 0, 0] [v2]) [] M h
noncomputable def XB_X0_duesNow_41_e (c1 : Int → Int → Int → am_M → am_Rs) (v1 : Int) (M : am_M) : am_Rs :=
  c1 v1 0 0 M
set_option maxRecDepth 100000 in
theorem rs_X0_duesNow_41_e {x : Int} {M' : am_M} {c1 : Int → Int → Int → am_M → am_Rs} (h1 : ∀ w1 w2 w4 M, c1 w1 w2 w4 M = some (x, M') → am_R none 5 bk_X0_duesNow 1 (am_wr [44, 1, 2, 0, 1] [w1, w2, w4]) [] SH M (am_rv (am_rk 5) x) SH M') (v1 : Int) (M : am_M) (h : XB_X0_duesNow_41_e c1 v1 M = some (x, M')) : am_R none 5 bk_X0_duesNow 0 (am_ent 5 [.inr (.inr (some 41)), .inl v1]) [] SH M (am_rv (am_rk 5) x) SH M' :=
  vRegion (sc := none) (sh := SH) (F := F_X0_duesNow_41) (k := 5) (bs := bk_X0_duesNow) (r := (x, M')) (C := fun t lv st M => if t = 1 then vCt [44, 1, 2, 0, 1] (un3 c1) lv st M else none) ok_X0_duesNow fs_X0_duesNow_41 (fun t lv st M h => by
    split at h
    · rename_i e; subst e; exact vCt_s (un3_s h1) h
    cases h) 6 0 (am_ent 5 [.inr (.inr (some 41)), .inl v1]) [] M h
noncomputable def XL_X0_duesNow_41_1 (k3 : Int → am_M → am_Rs) : Nat → Int → Int → Int → am_M → am_Rs
  | 0, _, _, _, _ => none
  | n + 1, v1, v2, v4, M => XB_X0_duesNow_41_1 (XL_X0_duesNow_41_1 k3 n) k3 v1 v2 v4 M
theorem ls_X0_duesNow_41_1 {x : Int} {M' : am_M} {k3 : Int → am_M → am_Rs} (hk3 : ∀ w2 M, k3 w2 M = some (x, M') → am_R none 5 bk_X0_duesNow 3 (am_wr [0, 0, 2, 0, 0] [w2]) [] SH M (am_rv (am_rk 5) x) SH M') : ∀ (n : Nat) (v1 v2 v4 : Int) (M : am_M), XL_X0_duesNow_41_1 k3 n v1 v2 v4 M = some (x, M') → am_R none 5 bk_X0_duesNow 1 (am_wr [44, 1, 2, 0, 1] [v1, v2, v4]) [] SH M (am_rv (am_rk 5) x) SH M'
  | 0, v1, v2, v4, M, h => by cases h
  | n + 1, v1, v2, v4, M, h => rs_X0_duesNow_41_1 (ls_X0_duesNow_41_1 hk3 n) hk3 v1 v2 v4 M h
noncomputable def X_X0_duesNow_41 (v1 : Int) (M : am_M) : am_Rs := XB_X0_duesNow_41_e (XL_X0_duesNow_41_1 (XB_X0_duesNow_41_3) 1000) v1 M
theorem dc_X0_duesNow_41 (v1 : Int) (M M' : am_M) (x : Int) (h : X_X0_duesNow_41 v1 M = some (x, M')) : am_Calls 5 [.inr (.inr (some 41)), .inl v1] SH M (am_rv (am_rk 5) x) SH M' :=
  am_enter pn_X0_duesNow ml_X0_duesNow rfl (Nat.le_of_ble_eq_true rfl) ⟨Nat.le_refl _, Nat.le_refl _⟩ (rs_X0_duesNow_41_e (ls_X0_duesNow_41_1 (rs_X0_duesNow_41_3) 1000) v1 M h)
noncomputable def F_X0_duesOf_41 : Nat → List am_V → am_M → am_Rs := fun k as M => if k = 5 then (match as with
  | [.inr (.inr (some 41)), .inl a1] => X_X0_duesNow_41 a1 M
  | _ => none) else if k = 6 then (match as with
  | [.inr (.inr (some 41))] => X_X0_begin_41 M
  | _ => none) else if k = 8 then (match as with
  | [.inr (.inr (some 41)), .inl a1, .inl a2] => X_X0_goOn_41 a1 a2 M
  | _ => none) else if k = 12 then (match as with
  | [.inl a0] => X_X1_isTaxDay a0 M
  | _ => none) else none
theorem fs_X0_duesOf_41 : am_FS SH F_X0_duesOf_41 := by
  intro k as M x M' h
  unfold F_X0_duesOf_41 at h
  split at h
  · rename_i hk; subst hk
    split at h
    · exact dc_X0_duesNow_41 _ _ _ _ h
    · cases h
  split at h
  · rename_i hk; subst hk
    split at h
    · exact dc_X0_begin_41 _ _ _ h
    · cases h
  split at h
  · rename_i hk; subst hk
    split at h
    · exact dc_X0_goOn_41 _ _ _ _ _ h
    · cases h
  split at h
  · rename_i hk; subst hk
    split at h
    · exact dc_X1_isTaxDay _ _ _ _ h
    · cases h
  cases h
noncomputable def XB_X0_duesOf_41_1 (c1 : Int → Int → Int → Int → am_M → am_Rs) (c5 : Int → am_M → am_Rs) (v1 v2 v3 v5 : Int) (M : am_M) : am_Rs :=
  if wI v5 < wI v2 then
   (X_X0_goOn_41 ((M 14 0) + v5) (-1) M).bind fun z1 =>
   (X_X1_isTaxDay ((z1.2 14 0) + v5) z1.2).bind fun z2 =>
   if wI z2.1 = 0 then
    c1 v1 v2 (v3 * 16) (v5 + 1) z2.2
   else (X_X0_duesNow_41 v1 z2.2).bind fun z3 =>
   c1 v1 v2 ((v3 * 16) + z3.1) (v5 + 1) z3.2
  else c5 v3 M
set_option maxRecDepth 100000 in
theorem rs_X0_duesOf_41_1 {x : Int} {M' : am_M} {c1 : Int → Int → Int → Int → am_M → am_Rs} {c5 : Int → am_M → am_Rs} (h1 : ∀ w1 w2 w3 w5 M, c1 w1 w2 w3 w5 M = some (x, M') → am_R none 4 bk_X0_duesOf 1 (am_wr [44, 1, 1, 2, 0, 1] [w1, w2, w3, w5]) [] SH M (am_rv (am_rk 4) x) SH M') (h5 : ∀ w3 M, c5 w3 M = some (x, M') → am_R none 4 bk_X0_duesOf 5 (am_wr [0, 0, 0, 2, 0, 0] [w3]) [] SH M (am_rv (am_rk 4) x) SH M') (v1 v2 v3 v5 : Int) (M : am_M) (h : XB_X0_duesOf_41_1 c1 c5 v1 v2 v3 v5 M = some (x, M')) : am_R none 4 bk_X0_duesOf 1 (am_wr [44, 1, 1, 2, 0, 1] [v1, v2, v3, v5]) [] SH M (am_rv (am_rk 4) x) SH M' :=
  vRegion (sc := none) (sh := SH) (F := F_X0_duesOf_41) (k := 4) (bs := bk_X0_duesOf) (r := (x, M')) (C := fun t lv st M => if t = 1 then vCt [44, 1, 1, 2, 0, 1] (un4 c1) lv st M else if t = 5 then vCt [0, 0, 0, 2, 0, 0] (un1 c5) lv st M else none) ok_X0_duesOf fs_X0_duesOf_41 (fun t lv st M h => by
    split at h
    · rename_i e; subst e; exact vCt_s (un4_s h1) h
    split at h
    · rename_i e; subst e; exact vCt_s (un1_s h5) h
    cases h) 8 1 (am_wr [44, 1, 1, 2, 0, 1] [v1, v2, v3, v5]) [] M h
noncomputable def XB_X0_duesOf_41_5 (v3 : Int) (M : am_M) : am_Rs :=
  some (v3, M)
set_option maxRecDepth 100000 in
theorem rs_X0_duesOf_41_5 {x : Int} {M' : am_M} (v3 : Int) (M : am_M) (h : XB_X0_duesOf_41_5 v3 M = some (x, M')) : am_R none 4 bk_X0_duesOf 5 (am_wr [0, 0, 0, 2, 0, 0] [v3]) [] SH M (am_rv (am_rk 4) x) SH M' :=
  vRegion (sc := none) (sh := SH) (F := F_X0_duesOf_41) (k := 4) (bs := bk_X0_duesOf) (r := (x, M')) (C := fun t lv st M => none) ok_X0_duesOf fs_X0_duesOf_41 (fun t lv st M h => by
    cases h) 8 5 (am_wr [0, 0, 0, 2, 0, 0] [v3]) [] M h
noncomputable def XB_X0_duesOf_41_e (c1 : Int → Int → Int → Int → am_M → am_Rs) (v1 v2 : Int) (M : am_M) : am_Rs :=
  (X_X0_begin_41 M).bind fun z1 =>
  c1 v1 v2 0 0 z1.2
set_option maxRecDepth 100000 in
theorem rs_X0_duesOf_41_e {x : Int} {M' : am_M} {c1 : Int → Int → Int → Int → am_M → am_Rs} (h1 : ∀ w1 w2 w3 w5 M, c1 w1 w2 w3 w5 M = some (x, M') → am_R none 4 bk_X0_duesOf 1 (am_wr [44, 1, 1, 2, 0, 1] [w1, w2, w3, w5]) [] SH M (am_rv (am_rk 4) x) SH M') (v1 v2 : Int) (M : am_M) (h : XB_X0_duesOf_41_e c1 v1 v2 M = some (x, M')) : am_R none 4 bk_X0_duesOf 0 (am_ent 6 [.inr (.inr (some 41)), .inl v1, .inl v2]) [] SH M (am_rv (am_rk 4) x) SH M' :=
  vRegion (sc := none) (sh := SH) (F := F_X0_duesOf_41) (k := 4) (bs := bk_X0_duesOf) (r := (x, M')) (C := fun t lv st M => if t = 1 then vCt [44, 1, 1, 2, 0, 1] (un4 c1) lv st M else none) ok_X0_duesOf fs_X0_duesOf_41 (fun t lv st M h => by
    split at h
    · rename_i e; subst e; exact vCt_s (un4_s h1) h
    cases h) 8 0 (am_ent 6 [.inr (.inr (some 41)), .inl v1, .inl v2]) [] M h
noncomputable def XL_X0_duesOf_41_1 (k5 : Int → am_M → am_Rs) : Nat → Int → Int → Int → Int → am_M → am_Rs
  | 0, _, _, _, _, _ => none
  | n + 1, v1, v2, v3, v5, M => XB_X0_duesOf_41_1 (XL_X0_duesOf_41_1 k5 n) k5 v1 v2 v3 v5 M
theorem ls_X0_duesOf_41_1 {x : Int} {M' : am_M} {k5 : Int → am_M → am_Rs} (hk5 : ∀ w3 M, k5 w3 M = some (x, M') → am_R none 4 bk_X0_duesOf 5 (am_wr [0, 0, 0, 2, 0, 0] [w3]) [] SH M (am_rv (am_rk 4) x) SH M') : ∀ (n : Nat) (v1 v2 v3 v5 : Int) (M : am_M), XL_X0_duesOf_41_1 k5 n v1 v2 v3 v5 M = some (x, M') → am_R none 4 bk_X0_duesOf 1 (am_wr [44, 1, 1, 2, 0, 1] [v1, v2, v3, v5]) [] SH M (am_rv (am_rk 4) x) SH M'
  | 0, v1, v2, v3, v5, M, h => by cases h
  | n + 1, v1, v2, v3, v5, M, h => rs_X0_duesOf_41_1 (ls_X0_duesOf_41_1 hk5 n) hk5 v1 v2 v3 v5 M h
noncomputable def X_X0_duesOf_41 (v1 v2 : Int) (M : am_M) : am_Rs := XB_X0_duesOf_41_e (XL_X0_duesOf_41_1 (XB_X0_duesOf_41_5) 1000) v1 v2 M
theorem dc_X0_duesOf_41 (v1 v2 : Int) (M M' : am_M) (x : Int) (h : X_X0_duesOf_41 v1 v2 M = some (x, M')) : am_Calls 4 [.inr (.inr (some 41)), .inl v1, .inl v2] SH M (am_rv (am_rk 4) x) SH M' :=
  am_enter pn_X0_duesOf ml_X0_duesOf rfl (Nat.le_of_ble_eq_true rfl) ⟨Nat.le_refl _, Nat.le_refl _⟩ (rs_X0_duesOf_41_e (ls_X0_duesOf_41_1 (rs_X0_duesOf_41_5) 1000) v1 v2 M h)
noncomputable def F_X8_hedge_0 : Nat → List am_V → am_M → am_Rs := fun k as M => if k = 1 then (match as with
  | [.inl a0] => X_X0_pairsIn a0 M
  | _ => none) else if k = 4 then (match as with
  | [.inr (.inr (some 41)), .inl a1, .inl a2] => X_X0_duesOf_41 a1 a2 M
  | _ => none) else if k = 33 then (match as with
  | [.inr (.inr (some 11)), .inl a1] => X_X2_has_11 a1 M
  | _ => none) else if k = 156 then (match as with
  | [.inr (.inr (some 0)), .inr (.inl a1), .inr (.inl a3)] => X_X8_tellChance_0 a1 a3 M
  | _ => none) else if k = 161 then (match as with
  | [.inl a0] => X_X8_isChanceLength a0 M
  | _ => none) else none
theorem fs_X8_hedge_0 : am_FS SH F_X8_hedge_0 := by
  intro k as M x M' h
  unfold F_X8_hedge_0 at h
  split at h
  · rename_i hk; subst hk
    split at h
    · exact dc_X0_pairsIn _ _ _ _ h
    · cases h
  split at h
  · rename_i hk; subst hk
    split at h
    · exact dc_X0_duesOf_41 _ _ _ _ _ h
    · cases h
  split at h
  · rename_i hk; subst hk
    split at h
    · exact dc_X2_has_11 _ _ _ _ h
    · cases h
  split at h
  · rename_i hk; subst hk
    split at h
    · exact dc_X8_tellChance_0 _ _ _ _ _ h
    · cases h
  split at h
  · rename_i hk; subst hk
    split at h
    · exact dc_X8_isChanceLength _ _ _ _ h
    · cases h
  cases h
noncomputable def X_X8_hedge_0 (v1 v2 : Int) (M : am_M) : am_Rs :=
  (X_X2_has_11 v1 M).bind fun z1 =>
  if wI z1.1 = 0 then
   some ((-1), z1.2)
  else (X_X8_isChanceLength v2 z1.2).bind fun z2 =>
  if wI z2.1 = 0 then
   some ((-1), z2.2)
  else (X_X0_duesOf_41 v1 v2 z2.2).bind fun z3 =>
  (X_X0_pairsIn v2 z3.2).bind fun z4 =>
  (X_X8_tellChance_0 z3.1 z4.1 z4.2).bind fun z5 =>
  some (z5.1, z5.2)
set_option maxRecDepth 100000 in
theorem dc_X8_hedge_0 (v1 v2 : Int) (M M' : am_M) (x : Int) (h : X_X8_hedge_0 v1 v2 M = some (x, M')) : am_Calls 139 [.inr (.inr (some 0)), .inl v1, .inl v2] SH M (am_rv (am_rk 139) x) SH M' :=
  vCall (F := F_X8_hedge_0) (C := fun _ _ _ _ => none) (fu := 6) ok_X8_hedge pn_X8_hedge ml_X8_hedge rfl (Nat.le_of_ble_eq_true rfl) fs_X8_hedge_0 (fun _ _ _ _ h => by cases h) h
noncomputable def X_X8_isGame (v0 v1 : Int) (M : am_M) : am_Rs :=
  if wI v0 < 0 then
   some (0, M)
  else if 4 < wI v0 then
   some (0, M)
  else if wI v1 < 0 then
   some (0, M)
  else if 9 < wI v1 then
   some (0, M)
  else some (1, M)
set_option maxRecDepth 100000 in
theorem dc_X8_isGame (v0 v1 : Int) (M M' : am_M) (x : Int) (h : X_X8_isGame v0 v1 M = some (x, M')) : am_Calls 162 [.inl v0, .inl v1] SH M (am_rv (am_rk 162) x) SH M' :=
  vCall (F := F_none) (C := fun _ _ _ _ => none) (fu := 9) ok_X8_isGame pn_X8_isGame ml_X8_isGame rfl (Nat.le_of_ble_eq_true rfl) fs_none (fun _ _ _ _ h => by cases h) h
noncomputable def X_X7_isSlot (v0 v1 : Int) (M : am_M) : am_Rs :=
  if wI v0 < 0 then
   some (0, M)
  else if 4 < wI v0 then
   some (0, M)
  else if wI v1 < 0 then
   some (0, M)
  else if wI v1 < 13 then
   some (1, M)
  else some (0, M)
set_option maxRecDepth 100000 in
theorem dc_X7_isSlot (v0 v1 : Int) (M M' : am_M) (x : Int) (h : X_X7_isSlot v0 v1 M = some (x, M')) : am_Calls 103 [.inl v0, .inl v1] SH M (am_rv (am_rk 103) x) SH M' :=
  vCall (F := F_none) (C := fun _ _ _ _ => none) (fu := 9) ok_X7_isSlot pn_X7_isSlot ml_X7_isSlot rfl (Nat.le_of_ble_eq_true rfl) fs_none (fun _ _ _ _ h => by cases h) h
noncomputable def F_X7_note_44 : Nat → List am_V → am_M → am_Rs := fun k as M => if k = 103 then (match as with
  | [.inl a0, .inl a1] => X_X7_isSlot a0 a1 M
  | _ => none) else none
theorem fs_X7_note_44 : am_FS SH F_X7_note_44 := by
  intro k as M x M' h
  unfold F_X7_note_44 at h
  split at h
  · rename_i hk; subst hk
    split at h
    · exact dc_X7_isSlot _ _ _ _ _ h
    · cases h
  cases h
noncomputable def X_X7_note_44 (v1 v2 v3 v4 : Int) (M : am_M) : am_Rs :=
  (X_X7_isSlot v1 v2 M).bind fun z1 =>
  if wI z1.1 = 0 then
   some (0, z1.2)
  else if 0 ≤ wI ((v1 * 13) + v2) ∧ wI ((v1 * 13) + v2) < 65 then
  if 0 ≤ wI ((v1 * 13) + v2) ∧ wI ((v1 * 13) + v2) < 65 then
   some (0, (am_up (am_up z1.2 45 (wI ((v1 * 13) + v2)).toNat v3) 46 (wI ((v1 * 13) + v2)).toNat v4))
   else none
  else none
set_option maxRecDepth 100000 in
theorem dc_X7_note_44 (v1 v2 v3 v4 : Int) (M M' : am_M) (x : Int) (h : X_X7_note_44 v1 v2 v3 v4 M = some (x, M')) : am_Calls 100 [.inr (.inr (some 44)), .inl v1, .inl v2, .inl v3, .inl v4] SH M (am_rv (am_rk 100) x) SH M' :=
  vCall (F := F_X7_note_44) (C := fun _ _ _ _ => none) (fu := 5) ok_X7_note pn_X7_note ml_X7_note rfl (Nat.le_of_ble_eq_true rfl) fs_X7_note_44 (fun _ _ _ _ h => by cases h) h
noncomputable def F_X7_worthOf_44 : Nat → List am_V → am_M → am_Rs := fun k as M => if k = 103 then (match as with
  | [.inl a0, .inl a1] => X_X7_isSlot a0 a1 M
  | _ => none) else none
theorem fs_X7_worthOf_44 : am_FS SH F_X7_worthOf_44 := by
  intro k as M x M' h
  unfold F_X7_worthOf_44 at h
  split at h
  · rename_i hk; subst hk
    split at h
    · exact dc_X7_isSlot _ _ _ _ _ h
    · cases h
  cases h
noncomputable def X_X7_worthOf_44 (v1 v2 : Int) (M : am_M) : am_Rs :=
  (X_X7_isSlot v1 v2 M).bind fun z1 =>
  if wI z1.1 = 0 then
   some (0, z1.2)
  else if 0 ≤ wI ((v1 * 13) + v2) ∧ wI ((v1 * 13) + v2) < 65 then
  some (z1.2 45 (wI ((v1 * 13) + v2)).toNat, z1.2)
  else none
set_option maxRecDepth 100000 in
theorem dc_X7_worthOf_44 (v1 v2 : Int) (M M' : am_M) (x : Int) (h : X_X7_worthOf_44 v1 v2 M = some (x, M')) : am_Calls 101 [.inr (.inr (some 44)), .inl v1, .inl v2] SH M (am_rv (am_rk 101) x) SH M' :=
  vCall (F := F_X7_worthOf_44) (C := fun _ _ _ _ => none) (fu := 6) ok_X7_worthOf pn_X7_worthOf ml_X7_worthOf rfl (Nat.le_of_ble_eq_true rfl) fs_X7_worthOf_44 (fun _ _ _ _ h => by cases h) h
noncomputable def F_X7_worthOfBoth_44 : Nat → List am_V → am_M → am_Rs := fun k as M => if k = 42 then (match as with
  | [.inr (.inr (some 11)), .inl a1, .inl a2, .inl a3, .inl a4] => X_X2_borderAfter_11 a1 a2 a3 a4 M
  | _ => none) else if k = 101 then (match as with
  | [.inr (.inr (some 44)), .inl a1, .inl a2] => X_X7_worthOf_44 a1 a2 M
  | _ => none) else none
theorem fs_X7_worthOfBoth_44 : am_FS SH F_X7_worthOfBoth_44 := by
  intro k as M x M' h
  unfold F_X7_worthOfBoth_44 at h
  split at h
  · rename_i hk; subst hk
    split at h
    · exact dc_X2_borderAfter_11 _ _ _ _ _ _ _ h
    · cases h
  split at h
  · rename_i hk; subst hk
    split at h
    · exact dc_X7_worthOf_44 _ _ _ _ _ h
    · cases h
  cases h
noncomputable def X_X7_worthOfBoth_44 (v1 v2 v3 v4 : Int) (M : am_M) : am_Rs :=
  (X_X2_borderAfter_11 v2 ((M 14 0) + v1) v3 v4 M).bind fun z1 =>
  (X_X7_worthOf_44 (v1 + 1) z1.1 z1.2).bind fun z2 =>
  some (((z1.2 44 4) * (v3 - v4)) + z2.1, z2.2)
set_option maxRecDepth 100000 in
theorem dc_X7_worthOfBoth_44 (v1 v2 v3 v4 : Int) (M M' : am_M) (x : Int) (h : X_X7_worthOfBoth_44 v1 v2 v3 v4 M = some (x, M')) : am_Calls 99 [.inr (.inr (some 44)), .inl v1, .inl v2, .inl v3, .inl v4] SH M (am_rv (am_rk 99) x) SH M' :=
  vCall (F := F_X7_worthOfBoth_44) (C := fun _ _ _ _ => none) (fu := 3) ok_X7_worthOfBoth pn_X7_worthOfBoth ml_X7_worthOfBoth rfl (Nat.le_of_ble_eq_true rfl) fs_X7_worthOfBoth_44 (fun _ _ _ _ h => by cases h) h
noncomputable def F_X7_bestReply_44 : Nat → List am_V → am_M → am_Rs := fun k as M => if k = 99 then (match as with
  | [.inr (.inr (some 44)), .inl a1, .inl a2, .inl a3, .inl a4] => X_X7_worthOfBoth_44 a1 a2 a3 a4 M
  | _ => none) else none
theorem fs_X7_bestReply_44 : am_FS SH F_X7_bestReply_44 := by
  intro k as M x M' h
  unfold F_X7_bestReply_44 at h
  split at h
  · rename_i hk; subst hk
    split at h
    · exact dc_X7_worthOfBoth_44 _ _ _ _ _ _ _ h
    · cases h
  cases h
noncomputable def XB_X7_bestReply_44_1 (c1 : Int → Int → Int → Int → Int → Int → am_M → am_Rs) (c5 : Int → am_M → am_Rs) (v1 v2 v3 v4 v5 v6 : Int) (M : am_M) : am_Rs :=
  if 3 < wI v6 then
   c5 v4 M
  else (X_X7_worthOfBoth_44 v1 v2 v3 v6 M).bind fun z1 =>
  if wI z1.1 < wI v5 then
   c1 v1 v2 v3 v6 z1.1 (v6 + 1) z1.2
  else c1 v1 v2 v3 v4 v5 (v6 + 1) z1.2
set_option maxRecDepth 100000 in
theorem rs_X7_bestReply_44_1 {x : Int} {M' : am_M} {c1 : Int → Int → Int → Int → Int → Int → am_M → am_Rs} {c5 : Int → am_M → am_Rs} (h1 : ∀ w1 w2 w3 w4 w5 w6 M, c1 w1 w2 w3 w4 w5 w6 M = some (x, M') → am_R none 98 bk_X7_bestReply 1 (am_wr [47, 1, 1, 1, 1, 1, 1, 0] [w1, w2, w3, w4, w5, w6]) [] SH M (am_rv (am_rk 98) x) SH M') (h5 : ∀ w4 M, c5 w4 M = some (x, M') → am_R none 98 bk_X7_bestReply 5 (am_wr [0, 0, 0, 0, 1, 0, 0, 0] [w4]) [] SH M (am_rv (am_rk 98) x) SH M') (v1 v2 v3 v4 v5 v6 : Int) (M : am_M) (h : XB_X7_bestReply_44_1 c1 c5 v1 v2 v3 v4 v5 v6 M = some (x, M')) : am_R none 98 bk_X7_bestReply 1 (am_wr [47, 1, 1, 1, 1, 1, 1, 0] [v1, v2, v3, v4, v5, v6]) [] SH M (am_rv (am_rk 98) x) SH M' :=
  vRegion (sc := none) (sh := SH) (F := F_X7_bestReply_44) (k := 98) (bs := bk_X7_bestReply) (r := (x, M')) (C := fun t lv st M => if t = 1 then vCt [47, 1, 1, 1, 1, 1, 1, 0] (un6 c1) lv st M else if t = 5 then vCt [0, 0, 0, 0, 1, 0, 0, 0] (un1 c5) lv st M else none) ok_X7_bestReply fs_X7_bestReply_44 (fun t lv st M h => by
    split at h
    · rename_i e; subst e; exact vCt_s (un6_s h1) h
    split at h
    · rename_i e; subst e; exact vCt_s (un1_s h5) h
    cases h) 8 1 (am_wr [47, 1, 1, 1, 1, 1, 1, 0] [v1, v2, v3, v4, v5, v6]) [] M h
noncomputable def XB_X7_bestReply_44_5 (v4 : Int) (M : am_M) : am_Rs :=
  some (v4, M)
set_option maxRecDepth 100000 in
theorem rs_X7_bestReply_44_5 {x : Int} {M' : am_M} (v4 : Int) (M : am_M) (h : XB_X7_bestReply_44_5 v4 M = some (x, M')) : am_R none 98 bk_X7_bestReply 5 (am_wr [0, 0, 0, 0, 1, 0, 0, 0] [v4]) [] SH M (am_rv (am_rk 98) x) SH M' :=
  vRegion (sc := none) (sh := SH) (F := F_X7_bestReply_44) (k := 98) (bs := bk_X7_bestReply) (r := (x, M')) (C := fun t lv st M => none) ok_X7_bestReply fs_X7_bestReply_44 (fun t lv st M h => by
    cases h) 8 5 (am_wr [0, 0, 0, 0, 1, 0, 0, 0] [v4]) [] M h
noncomputable def XB_X7_bestReply_44_e (c1 : Int → Int → Int → Int → Int → Int → am_M → am_Rs) (v1 v2 v3 : Int) (M : am_M) : am_Rs :=
  (X_X7_worthOfBoth_44 v1 v2 v3 0 M).bind fun z1 =>
  c1 v1 v2 v3 0 z1.1 1 z1.2
set_option maxRecDepth 100000 in
theorem rs_X7_bestReply_44_e {x : Int} {M' : am_M} {c1 : Int → Int → Int → Int → Int → Int → am_M → am_Rs} (h1 : ∀ w1 w2 w3 w4 w5 w6 M, c1 w1 w2 w3 w4 w5 w6 M = some (x, M') → am_R none 98 bk_X7_bestReply 1 (am_wr [47, 1, 1, 1, 1, 1, 1, 0] [w1, w2, w3, w4, w5, w6]) [] SH M (am_rv (am_rk 98) x) SH M') (v1 v2 v3 : Int) (M : am_M) (h : XB_X7_bestReply_44_e c1 v1 v2 v3 M = some (x, M')) : am_R none 98 bk_X7_bestReply 0 (am_ent 8 [.inr (.inr (some 44)), .inl v1, .inl v2, .inl v3]) [] SH M (am_rv (am_rk 98) x) SH M' :=
  vRegion (sc := none) (sh := SH) (F := F_X7_bestReply_44) (k := 98) (bs := bk_X7_bestReply) (r := (x, M')) (C := fun t lv st M => if t = 1 then vCt [47, 1, 1, 1, 1, 1, 1, 0] (un6 c1) lv st M else none) ok_X7_bestReply fs_X7_bestReply_44 (fun t lv st M h => by
    split at h
    · rename_i e; subst e; exact vCt_s (un6_s h1) h
    cases h) 8 0 (am_ent 8 [.inr (.inr (some 44)), .inl v1, .inl v2, .inl v3]) [] M h
noncomputable def XL_X7_bestReply_44_1 (k5 : Int → am_M → am_Rs) : Nat → Int → Int → Int → Int → Int → Int → am_M → am_Rs
  | 0, _, _, _, _, _, _, _ => none
  | n + 1, v1, v2, v3, v4, v5, v6, M => XB_X7_bestReply_44_1 (XL_X7_bestReply_44_1 k5 n) k5 v1 v2 v3 v4 v5 v6 M
theorem ls_X7_bestReply_44_1 {x : Int} {M' : am_M} {k5 : Int → am_M → am_Rs} (hk5 : ∀ w4 M, k5 w4 M = some (x, M') → am_R none 98 bk_X7_bestReply 5 (am_wr [0, 0, 0, 0, 1, 0, 0, 0] [w4]) [] SH M (am_rv (am_rk 98) x) SH M') : ∀ (n : Nat) (v1 v2 v3 v4 v5 v6 : Int) (M : am_M), XL_X7_bestReply_44_1 k5 n v1 v2 v3 v4 v5 v6 M = some (x, M') → am_R none 98 bk_X7_bestReply 1 (am_wr [47, 1, 1, 1, 1, 1, 1, 0] [v1, v2, v3, v4, v5, v6]) [] SH M (am_rv (am_rk 98) x) SH M'
  | 0, v1, v2, v3, v4, v5, v6, M, h => by cases h
  | n + 1, v1, v2, v3, v4, v5, v6, M, h => rs_X7_bestReply_44_1 (ls_X7_bestReply_44_1 hk5 n) hk5 v1 v2 v3 v4 v5 v6 M h
noncomputable def X_X7_bestReply_44 (v1 v2 v3 : Int) (M : am_M) : am_Rs := XB_X7_bestReply_44_e (XL_X7_bestReply_44_1 (XB_X7_bestReply_44_5) 1000) v1 v2 v3 M
theorem dc_X7_bestReply_44 (v1 v2 v3 : Int) (M M' : am_M) (x : Int) (h : X_X7_bestReply_44 v1 v2 v3 M = some (x, M')) : am_Calls 98 [.inr (.inr (some 44)), .inl v1, .inl v2, .inl v3] SH M (am_rv (am_rk 98) x) SH M' :=
  am_enter pn_X7_bestReply ml_X7_bestReply rfl (Nat.le_of_ble_eq_true rfl) ⟨Nat.le_refl _, Nat.le_refl _⟩ (rs_X7_bestReply_44_e (ls_X7_bestReply_44_1 (rs_X7_bestReply_44_5) 1000) v1 v2 v3 M h)
