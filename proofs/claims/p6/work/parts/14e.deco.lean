noncomputable def F_X7_choose_44 : Nat → List am_V → am_M → am_Rs := fun k as M => if k = 98 then (match as with
  | [.inr (.inr (some 44)), .inl a1, .inl a2, .inl a3] => X_X7_bestReply_44 a1 a2 a3 M
  | _ => none) else if k = 99 then (match as with
  | [.inr (.inr (some 44)), .inl a1, .inl a2, .inl a3, .inl a4] => X_X7_worthOfBoth_44 a1 a2 a3 a4 M
  | _ => none) else if k = 100 then (match as with
  | [.inr (.inr (some 44)), .inl a1, .inl a2, .inl a3, .inl a4] => X_X7_note_44 a1 a2 a3 a4 M
  | _ => none) else none
theorem fs_X7_choose_44 : am_FS SH F_X7_choose_44 := by
  intro k as M x M' h
  unfold F_X7_choose_44 at h
  split at h
  · rename_i hk; subst hk
    split at h
    · exact dc_X7_bestReply_44 _ _ _ _ _ _ h
    · cases h
  split at h
  · rename_i hk; subst hk
    split at h
    · exact dc_X7_worthOfBoth_44 _ _ _ _ _ _ _ h
    · cases h
  split at h
  · rename_i hk; subst hk
    split at h
    · exact dc_X7_note_44 _ _ _ _ _ _ _ h
    · cases h
  cases h
noncomputable def XB_X7_choose_44_1 (c1 : Int → Int → Int → Int → Int → am_M → am_Rs) (c6 : Int → Int → Int → Int → am_M → am_Rs) (v1 v2 v3 v4 v5 : Int) (M : am_M) : am_Rs :=
  if 3 < wI v5 then
   c6 v1 v2 v3 v4 M
  else (X_X7_bestReply_44 v1 v2 v5 M).bind fun z1 =>
  (X_X7_worthOfBoth_44 v1 v2 v5 z1.1 z1.2).bind fun z2 =>
  if wI v5 = 0 then
   c1 v1 v2 v5 z2.1 (v5 + 1) z2.2
  else if wI v4 < wI z2.1 then
   c1 v1 v2 v5 z2.1 (v5 + 1) z2.2
  else c1 v1 v2 v3 v4 (v5 + 1) z2.2
set_option maxRecDepth 100000 in
theorem rs_X7_choose_44_1 {x : Int} {M' : am_M} {c1 : Int → Int → Int → Int → Int → am_M → am_Rs} {c6 : Int → Int → Int → Int → am_M → am_Rs} (h1 : ∀ w1 w2 w3 w4 w5 M, c1 w1 w2 w3 w4 w5 M = some (x, M') → am_R none 97 bk_X7_choose 1 (am_wr [47, 1, 1, 1, 1, 1, 0] [w1, w2, w3, w4, w5]) [] SH M (am_rv (am_rk 97) x) SH M') (h6 : ∀ w1 w2 w3 w4 M, c6 w1 w2 w3 w4 M = some (x, M') → am_R none 97 bk_X7_choose 6 (am_wr [47, 1, 1, 1, 1, 0, 0] [w1, w2, w3, w4]) [] SH M (am_rv (am_rk 97) x) SH M') (v1 v2 v3 v4 v5 : Int) (M : am_M) (h : XB_X7_choose_44_1 c1 c6 v1 v2 v3 v4 v5 M = some (x, M')) : am_R none 97 bk_X7_choose 1 (am_wr [47, 1, 1, 1, 1, 1, 0] [v1, v2, v3, v4, v5]) [] SH M (am_rv (am_rk 97) x) SH M' :=
  vRegion (sc := none) (sh := SH) (F := F_X7_choose_44) (k := 97) (bs := bk_X7_choose) (r := (x, M')) (C := fun t lv st M => if t = 1 then vCt [47, 1, 1, 1, 1, 1, 0] (un5 c1) lv st M else if t = 6 then vCt [47, 1, 1, 1, 1, 0, 0] (un4 c6) lv st M else none) ok_X7_choose fs_X7_choose_44 (fun t lv st M h => by
    split at h
    · rename_i e; subst e; exact vCt_s (un5_s h1) h
    split at h
    · rename_i e; subst e; exact vCt_s (un4_s h6) h
    cases h) 9 1 (am_wr [47, 1, 1, 1, 1, 1, 0] [v1, v2, v3, v4, v5]) [] M h
noncomputable def XB_X7_choose_44_6 (v1 v2 v3 v4 : Int) (M : am_M) : am_Rs :=
  (X_X7_note_44 v1 v2 v4 v3 M).bind fun z1 =>
  some (0, z1.2)
set_option maxRecDepth 100000 in
theorem rs_X7_choose_44_6 {x : Int} {M' : am_M} (v1 v2 v3 v4 : Int) (M : am_M) (h : XB_X7_choose_44_6 v1 v2 v3 v4 M = some (x, M')) : am_R none 97 bk_X7_choose 6 (am_wr [47, 1, 1, 1, 1, 0, 0] [v1, v2, v3, v4]) [] SH M (am_rv (am_rk 97) x) SH M' :=
  vRegion (sc := none) (sh := SH) (F := F_X7_choose_44) (k := 97) (bs := bk_X7_choose) (r := (x, M')) (C := fun t lv st M => none) ok_X7_choose fs_X7_choose_44 (fun t lv st M h => by
    cases h) 9 6 (am_wr [47, 1, 1, 1, 1, 0, 0] [v1, v2, v3, v4]) [] M h
noncomputable def XB_X7_choose_44_e (c1 : Int → Int → Int → Int → Int → am_M → am_Rs) (v1 v2 : Int) (M : am_M) : am_Rs :=
  c1 v1 v2 0 0 0 M
set_option maxRecDepth 100000 in
theorem rs_X7_choose_44_e {x : Int} {M' : am_M} {c1 : Int → Int → Int → Int → Int → am_M → am_Rs} (h1 : ∀ w1 w2 w3 w4 w5 M, c1 w1 w2 w3 w4 w5 M = some (x, M') → am_R none 97 bk_X7_choose 1 (am_wr [47, 1, 1, 1, 1, 1, 0] [w1, w2, w3, w4, w5]) [] SH M (am_rv (am_rk 97) x) SH M') (v1 v2 : Int) (M : am_M) (h : XB_X7_choose_44_e c1 v1 v2 M = some (x, M')) : am_R none 97 bk_X7_choose 0 (am_ent 7 [.inr (.inr (some 44)), .inl v1, .inl v2]) [] SH M (am_rv (am_rk 97) x) SH M' :=
  vRegion (sc := none) (sh := SH) (F := F_X7_choose_44) (k := 97) (bs := bk_X7_choose) (r := (x, M')) (C := fun t lv st M => if t = 1 then vCt [47, 1, 1, 1, 1, 1, 0] (un5 c1) lv st M else none) ok_X7_choose fs_X7_choose_44 (fun t lv st M h => by
    split at h
    · rename_i e; subst e; exact vCt_s (un5_s h1) h
    cases h) 9 0 (am_ent 7 [.inr (.inr (some 44)), .inl v1, .inl v2]) [] M h
noncomputable def XL_X7_choose_44_1 (k6 : Int → Int → Int → Int → am_M → am_Rs) : Nat → Int → Int → Int → Int → Int → am_M → am_Rs
  | 0, _, _, _, _, _, _ => none
  | n + 1, v1, v2, v3, v4, v5, M => XB_X7_choose_44_1 (XL_X7_choose_44_1 k6 n) k6 v1 v2 v3 v4 v5 M
theorem ls_X7_choose_44_1 {x : Int} {M' : am_M} {k6 : Int → Int → Int → Int → am_M → am_Rs} (hk6 : ∀ w1 w2 w3 w4 M, k6 w1 w2 w3 w4 M = some (x, M') → am_R none 97 bk_X7_choose 6 (am_wr [47, 1, 1, 1, 1, 0, 0] [w1, w2, w3, w4]) [] SH M (am_rv (am_rk 97) x) SH M') : ∀ (n : Nat) (v1 v2 v3 v4 v5 : Int) (M : am_M), XL_X7_choose_44_1 k6 n v1 v2 v3 v4 v5 M = some (x, M') → am_R none 97 bk_X7_choose 1 (am_wr [47, 1, 1, 1, 1, 1, 0] [v1, v2, v3, v4, v5]) [] SH M (am_rv (am_rk 97) x) SH M'
  | 0, v1, v2, v3, v4, v5, M, h => by cases h
  | n + 1, v1, v2, v3, v4, v5, M, h => rs_X7_choose_44_1 (ls_X7_choose_44_1 hk6 n) hk6 v1 v2 v3 v4 v5 M h
noncomputable def X_X7_choose_44 (v1 v2 : Int) (M : am_M) : am_Rs := XB_X7_choose_44_e (XL_X7_choose_44_1 (XB_X7_choose_44_6) 1000) v1 v2 M
theorem dc_X7_choose_44 (v1 v2 : Int) (M M' : am_M) (x : Int) (h : X_X7_choose_44 v1 v2 M = some (x, M')) : am_Calls 97 [.inr (.inr (some 44)), .inl v1, .inl v2] SH M (am_rv (am_rk 97) x) SH M' :=
  am_enter pn_X7_choose ml_X7_choose rfl (Nat.le_of_ble_eq_true rfl) ⟨Nat.le_refl _, Nat.le_refl _⟩ (rs_X7_choose_44_e (ls_X7_choose_44_1 (rs_X7_choose_44_6) 1000) v1 v2 M h)
noncomputable def F_X7_solve_44 : Nat → List am_V → am_M → am_Rs := fun k as M => if k = 97 then (match as with
  | [.inr (.inr (some 44)), .inl a1, .inl a2] => X_X7_choose_44 a1 a2 M
  | _ => none) else if k = 100 then (match as with
  | [.inr (.inr (some 44)), .inl a1, .inl a2, .inl a3, .inl a4] => X_X7_note_44 a1 a2 a3 a4 M
  | _ => none) else none
theorem fs_X7_solve_44 : am_FS SH F_X7_solve_44 := by
  intro k as M x M' h
  unfold F_X7_solve_44 at h
  split at h
  · rename_i hk; subst hk
    split at h
    · exact dc_X7_choose_44 _ _ _ _ _ h
    · cases h
  split at h
  · rename_i hk; subst hk
    split at h
    · exact dc_X7_note_44 _ _ _ _ _ _ _ h
    · cases h
  cases h
noncomputable def XB_X7_solve_44_1 (c1 : Int → Int → am_M → am_Rs) (c3 : Int → am_M → am_Rs) (v1 v3 : Int) (M : am_M) : am_Rs :=
  if wI (M 11 0) < wI v3 then
   c3 v1 M
  else (X_X7_note_44 v1 v3 ((2 * v3) - (M 11 0)) 0 M).bind fun z1 =>
  c1 v1 (v3 + 1) z1.2
set_option maxRecDepth 100000 in
theorem rs_X7_solve_44_1 {x : Int} {M' : am_M} {c1 : Int → Int → am_M → am_Rs} {c3 : Int → am_M → am_Rs} (h1 : ∀ w1 w3 M, c1 w1 w3 M = some (x, M') → am_R none 96 bk_X7_solve 1 (am_wr [47, 1, 0, 1, 0] [w1, w3]) [] SH M (am_rv (am_rk 96) x) SH M') (h3 : ∀ w1 M, c3 w1 M = some (x, M') → am_R none 96 bk_X7_solve 3 (am_wr [47, 1, 0, 0, 0] [w1]) [] SH M (am_rv (am_rk 96) x) SH M') (v1 v3 : Int) (M : am_M) (h : XB_X7_solve_44_1 c1 c3 v1 v3 M = some (x, M')) : am_R none 96 bk_X7_solve 1 (am_wr [47, 1, 0, 1, 0] [v1, v3]) [] SH M (am_rv (am_rk 96) x) SH M' :=
  vRegion (sc := none) (sh := SH) (F := F_X7_solve_44) (k := 96) (bs := bk_X7_solve) (r := (x, M')) (C := fun t lv st M => if t = 1 then vCt [47, 1, 0, 1, 0] (un2 c1) lv st M else if t = 3 then vCt [47, 1, 0, 0, 0] (un1 c3) lv st M else none) ok_X7_solve fs_X7_solve_44 (fun t lv st M h => by
    split at h
    · rename_i e; subst e; exact vCt_s (un2_s h1) h
    split at h
    · rename_i e; subst e; exact vCt_s (un1_s h3) h
    cases h) 12 1 (am_wr [47, 1, 0, 1, 0] [v1, v3]) [] M h
noncomputable def XB_X7_solve_44_3 (c4 : Int → am_M → am_Rs) (v1 : Int) (M : am_M) : am_Rs :=
  c4 (v1 - 1) M
set_option maxRecDepth 100000 in
theorem rs_X7_solve_44_3 {x : Int} {M' : am_M} {c4 : Int → am_M → am_Rs} (h4 : ∀ w3 M, c4 w3 M = some (x, M') → am_R none 96 bk_X7_solve 4 (am_wr [47, 0, 0, 1, 0] [w3]) [] SH M (am_rv (am_rk 96) x) SH M') (v1 : Int) (M : am_M) (h : XB_X7_solve_44_3 c4 v1 M = some (x, M')) : am_R none 96 bk_X7_solve 3 (am_wr [47, 1, 0, 0, 0] [v1]) [] SH M (am_rv (am_rk 96) x) SH M' :=
  vRegion (sc := none) (sh := SH) (F := F_X7_solve_44) (k := 96) (bs := bk_X7_solve) (r := (x, M')) (C := fun t lv st M => if t = 4 then vCt [47, 0, 0, 1, 0] (un1 c4) lv st M else none) ok_X7_solve fs_X7_solve_44 (fun t lv st M h => by
    split at h
    · rename_i e; subst e; exact vCt_s (un1_s h4) h
    cases h) 12 3 (am_wr [47, 1, 0, 0, 0] [v1]) [] M h
noncomputable def XB_X7_solve_44_4 (c6 : Int → Int → am_M → am_Rs) (c9 : am_M → am_Rs) (v3 : Int) (M : am_M) : am_Rs :=
  if wI v3 < 0 then
   c9 M
  else c6 v3 0 M
set_option maxRecDepth 100000 in
theorem rs_X7_solve_44_4 {x : Int} {M' : am_M} {c6 : Int → Int → am_M → am_Rs} {c9 : am_M → am_Rs} (h6 : ∀ w3 w4 M, c6 w3 w4 M = some (x, M') → am_R none 96 bk_X7_solve 6 (am_wr [47, 0, 0, 1, 1] [w3, w4]) [] SH M (am_rv (am_rk 96) x) SH M') (h9 : ∀ M, c9 M = some (x, M') → am_R none 96 bk_X7_solve 9 (am_wr [0, 0, 0, 0, 0] []) [] SH M (am_rv (am_rk 96) x) SH M') (v3 : Int) (M : am_M) (h : XB_X7_solve_44_4 c6 c9 v3 M = some (x, M')) : am_R none 96 bk_X7_solve 4 (am_wr [47, 0, 0, 1, 0] [v3]) [] SH M (am_rv (am_rk 96) x) SH M' :=
  vRegion (sc := none) (sh := SH) (F := F_X7_solve_44) (k := 96) (bs := bk_X7_solve) (r := (x, M')) (C := fun t lv st M => if t = 6 then vCt [47, 0, 0, 1, 1] (un2 c6) lv st M else if t = 9 then vCt [0, 0, 0, 0, 0] (un0 c9) lv st M else none) ok_X7_solve fs_X7_solve_44 (fun t lv st M h => by
    split at h
    · rename_i e; subst e; exact vCt_s (un2_s h6) h
    split at h
    · rename_i e; subst e; exact vCt_s (un0_s h9) h
    cases h) 12 4 (am_wr [47, 0, 0, 1, 0] [v3]) [] M h
noncomputable def XB_X7_solve_44_6 (c6 : Int → Int → am_M → am_Rs) (c8 : Int → am_M → am_Rs) (v3 v4 : Int) (M : am_M) : am_Rs :=
  if wI (M 11 0) < wI v4 then
   c8 v3 M
  else (X_X7_choose_44 v3 v4 M).bind fun z1 =>
  c6 v3 (v4 + 1) z1.2
set_option maxRecDepth 100000 in
theorem rs_X7_solve_44_6 {x : Int} {M' : am_M} {c6 : Int → Int → am_M → am_Rs} {c8 : Int → am_M → am_Rs} (h6 : ∀ w3 w4 M, c6 w3 w4 M = some (x, M') → am_R none 96 bk_X7_solve 6 (am_wr [47, 0, 0, 1, 1] [w3, w4]) [] SH M (am_rv (am_rk 96) x) SH M') (h8 : ∀ w3 M, c8 w3 M = some (x, M') → am_R none 96 bk_X7_solve 8 (am_wr [47, 0, 0, 1, 0] [w3]) [] SH M (am_rv (am_rk 96) x) SH M') (v3 v4 : Int) (M : am_M) (h : XB_X7_solve_44_6 c6 c8 v3 v4 M = some (x, M')) : am_R none 96 bk_X7_solve 6 (am_wr [47, 0, 0, 1, 1] [v3, v4]) [] SH M (am_rv (am_rk 96) x) SH M' :=
  vRegion (sc := none) (sh := SH) (F := F_X7_solve_44) (k := 96) (bs := bk_X7_solve) (r := (x, M')) (C := fun t lv st M => if t = 6 then vCt [47, 0, 0, 1, 1] (un2 c6) lv st M else if t = 8 then vCt [47, 0, 0, 1, 0] (un1 c8) lv st M else none) ok_X7_solve fs_X7_solve_44 (fun t lv st M h => by
    split at h
    · rename_i e; subst e; exact vCt_s (un2_s h6) h
    split at h
    · rename_i e; subst e; exact vCt_s (un1_s h8) h
    cases h) 12 6 (am_wr [47, 0, 0, 1, 1] [v3, v4]) [] M h
noncomputable def XB_X7_solve_44_9 (M : am_M) : am_Rs :=
  some (0, M)
set_option maxRecDepth 100000 in
theorem rs_X7_solve_44_9 {x : Int} {M' : am_M} (M : am_M) (h : XB_X7_solve_44_9 M = some (x, M')) : am_R none 96 bk_X7_solve 9 (am_wr [0, 0, 0, 0, 0] []) [] SH M (am_rv (am_rk 96) x) SH M' :=
  vRegion (sc := none) (sh := SH) (F := F_X7_solve_44) (k := 96) (bs := bk_X7_solve) (r := (x, M')) (C := fun t lv st M => none) ok_X7_solve fs_X7_solve_44 (fun t lv st M h => by
    cases h) 12 9 (am_wr [0, 0, 0, 0, 0] []) [] M h
noncomputable def XB_X7_solve_44_8 (c4 : Int → am_M → am_Rs) (v3 : Int) (M : am_M) : am_Rs :=
  c4 (v3 + (-1)) M
set_option maxRecDepth 100000 in
theorem rs_X7_solve_44_8 {x : Int} {M' : am_M} {c4 : Int → am_M → am_Rs} (h4 : ∀ w3 M, c4 w3 M = some (x, M') → am_R none 96 bk_X7_solve 4 (am_wr [47, 0, 0, 1, 0] [w3]) [] SH M (am_rv (am_rk 96) x) SH M') (v3 : Int) (M : am_M) (h : XB_X7_solve_44_8 c4 v3 M = some (x, M')) : am_R none 96 bk_X7_solve 8 (am_wr [47, 0, 0, 1, 0] [v3]) [] SH M (am_rv (am_rk 96) x) SH M' :=
  vRegion (sc := none) (sh := SH) (F := F_X7_solve_44) (k := 96) (bs := bk_X7_solve) (r := (x, M')) (C := fun t lv st M => if t = 4 then vCt [47, 0, 0, 1, 0] (un1 c4) lv st M else none) ok_X7_solve fs_X7_solve_44 (fun t lv st M h => by
    split at h
    · rename_i e; subst e; exact vCt_s (un1_s h4) h
    cases h) 12 8 (am_wr [47, 0, 0, 1, 0] [v3]) [] M h
noncomputable def XB_X7_solve_44_e (c1 : Int → Int → am_M → am_Rs) (v1 v2 : Int) (M : am_M) : am_Rs :=
  c1 v1 0 (am_up M 44 4 v2)
set_option maxRecDepth 100000 in
theorem rs_X7_solve_44_e {x : Int} {M' : am_M} {c1 : Int → Int → am_M → am_Rs} (h1 : ∀ w1 w3 M, c1 w1 w3 M = some (x, M') → am_R none 96 bk_X7_solve 1 (am_wr [47, 1, 0, 1, 0] [w1, w3]) [] SH M (am_rv (am_rk 96) x) SH M') (v1 v2 : Int) (M : am_M) (h : XB_X7_solve_44_e c1 v1 v2 M = some (x, M')) : am_R none 96 bk_X7_solve 0 (am_ent 5 [.inr (.inr (some 44)), .inl v1, .inl v2]) [] SH M (am_rv (am_rk 96) x) SH M' :=
  vRegion (sc := none) (sh := SH) (F := F_X7_solve_44) (k := 96) (bs := bk_X7_solve) (r := (x, M')) (C := fun t lv st M => if t = 1 then vCt [47, 1, 0, 1, 0] (un2 c1) lv st M else none) ok_X7_solve fs_X7_solve_44 (fun t lv st M h => by
    split at h
    · rename_i e; subst e; exact vCt_s (un2_s h1) h
    cases h) 12 0 (am_ent 5 [.inr (.inr (some 44)), .inl v1, .inl v2]) [] M h
noncomputable def XL_X7_solve_44_1 (k3 : Int → am_M → am_Rs) : Nat → Int → Int → am_M → am_Rs
  | 0, _, _, _ => none
  | n + 1, v1, v3, M => XB_X7_solve_44_1 (XL_X7_solve_44_1 k3 n) k3 v1 v3 M
theorem ls_X7_solve_44_1 {x : Int} {M' : am_M} {k3 : Int → am_M → am_Rs} (hk3 : ∀ w1 M, k3 w1 M = some (x, M') → am_R none 96 bk_X7_solve 3 (am_wr [47, 1, 0, 0, 0] [w1]) [] SH M (am_rv (am_rk 96) x) SH M') : ∀ (n : Nat) (v1 v3 : Int) (M : am_M), XL_X7_solve_44_1 k3 n v1 v3 M = some (x, M') → am_R none 96 bk_X7_solve 1 (am_wr [47, 1, 0, 1, 0] [v1, v3]) [] SH M (am_rv (am_rk 96) x) SH M'
  | 0, v1, v3, M, h => by cases h
  | n + 1, v1, v3, M, h => rs_X7_solve_44_1 (ls_X7_solve_44_1 hk3 n) hk3 v1 v3 M h
noncomputable def XL_X7_solve_44_6 (k8 : Int → am_M → am_Rs) : Nat → Int → Int → am_M → am_Rs
  | 0, _, _, _ => none
  | n + 1, v3, v4, M => XB_X7_solve_44_6 (XL_X7_solve_44_6 k8 n) k8 v3 v4 M
theorem ls_X7_solve_44_6 {x : Int} {M' : am_M} {k8 : Int → am_M → am_Rs} (hk8 : ∀ w3 M, k8 w3 M = some (x, M') → am_R none 96 bk_X7_solve 8 (am_wr [47, 0, 0, 1, 0] [w3]) [] SH M (am_rv (am_rk 96) x) SH M') : ∀ (n : Nat) (v3 v4 : Int) (M : am_M), XL_X7_solve_44_6 k8 n v3 v4 M = some (x, M') → am_R none 96 bk_X7_solve 6 (am_wr [47, 0, 0, 1, 1] [v3, v4]) [] SH M (am_rv (am_rk 96) x) SH M'
  | 0, v3, v4, M, h => by cases h
  | n + 1, v3, v4, M, h => rs_X7_solve_44_6 (ls_X7_solve_44_6 hk8 n) hk8 v3 v4 M h
noncomputable def XL_X7_solve_44_4 (k9 : am_M → am_Rs) : Nat → Int → am_M → am_Rs
  | 0, _, _ => none
  | n + 1, v3, M => XB_X7_solve_44_4 (XL_X7_solve_44_6 (XB_X7_solve_44_8 (XL_X7_solve_44_4 k9 n)) 1000) k9 v3 M
theorem ls_X7_solve_44_4 {x : Int} {M' : am_M} {k9 : am_M → am_Rs} (hk9 : ∀ M, k9 M = some (x, M') → am_R none 96 bk_X7_solve 9 (am_wr [0, 0, 0, 0, 0] []) [] SH M (am_rv (am_rk 96) x) SH M') : ∀ (n : Nat) (v3 : Int) (M : am_M), XL_X7_solve_44_4 k9 n v3 M = some (x, M') → am_R none 96 bk_X7_solve 4 (am_wr [47, 0, 0, 1, 0] [v3]) [] SH M (am_rv (am_rk 96) x) SH M'
  | 0, v3, M, h => by cases h
  | n + 1, v3, M, h => rs_X7_solve_44_4 (ls_X7_solve_44_6 (rs_X7_solve_44_8 (ls_X7_solve_44_4 hk9 n)) 1000) hk9 v3 M h
noncomputable def X_X7_solve_44 (v1 v2 : Int) (M : am_M) : am_Rs := XB_X7_solve_44_e (XL_X7_solve_44_1 (XB_X7_solve_44_3 (XL_X7_solve_44_4 (XB_X7_solve_44_9) 1000)) 1000) v1 v2 M
theorem dc_X7_solve_44 (v1 v2 : Int) (M M' : am_M) (x : Int) (h : X_X7_solve_44 v1 v2 M = some (x, M')) : am_Calls 96 [.inr (.inr (some 44)), .inl v1, .inl v2] SH M (am_rv (am_rk 96) x) SH M' :=
  am_enter pn_X7_solve ml_X7_solve rfl (Nat.le_of_ble_eq_true rfl) ⟨Nat.le_refl _, Nat.le_refl _⟩ (rs_X7_solve_44_e (ls_X7_solve_44_1 (rs_X7_solve_44_3 (ls_X7_solve_44_4 (rs_X7_solve_44_9) 1000)) 1000) v1 v2 M h)
noncomputable def F_X8_game_0 : Nat → List am_V → am_M → am_Rs := fun k as M => if k = 96 then (match as with
  | [.inr (.inr (some 44)), .inl a1, .inl a2] => X_X7_solve_44 a1 a2 M
  | _ => none) else if k = 101 then (match as with
  | [.inr (.inr (some 44)), .inl a1, .inl a2] => X_X7_worthOf_44 a1 a2 M
  | _ => none) else if k = 155 then (match as with
  | [.inr (.inr (some 0)), .inl a1] => X_X8_tell_0 a1 M
  | _ => none) else if k = 158 then (match as with
  | [.inr (.inr (some 0))] => X_X8_hasNoLand_0 M
  | _ => none) else if k = 162 then (match as with
  | [.inl a0, .inl a1] => X_X8_isGame a0 a1 M
  | _ => none) else none
theorem fs_X8_game_0 : am_FS SH F_X8_game_0 := by
  intro k as M x M' h
  unfold F_X8_game_0 at h
  split at h
  · rename_i hk; subst hk
    split at h
    · exact dc_X7_solve_44 _ _ _ _ _ h
    · cases h
  split at h
  · rename_i hk; subst hk
    split at h
    · exact dc_X7_worthOf_44 _ _ _ _ _ h
    · cases h
  split at h
  · rename_i hk; subst hk
    split at h
    · exact dc_X8_tell_0 _ _ _ _ h
    · cases h
  split at h
  · rename_i hk; subst hk
    split at h
    · exact dc_X8_hasNoLand_0 _ _ _ h
    · cases h
  split at h
  · rename_i hk; subst hk
    split at h
    · exact dc_X8_isGame _ _ _ _ _ h
    · cases h
  cases h
noncomputable def X_X8_game_0 (v1 v2 : Int) (M : am_M) : am_Rs :=
  (X_X8_isGame v1 v2 M).bind fun z1 =>
  if wI z1.1 = 0 then
   some ((-1), z1.2)
  else (X_X8_hasNoLand_0 z1.2).bind fun z2 =>
  if wI z2.1 = 0 then
   (X_X7_solve_44 v1 v2 z2.2).bind fun z3 =>
   (X_X7_worthOf_44 0 (z3.2 14 1) z3.2).bind fun z4 =>
   (X_X8_tell_0 z4.1 z4.2).bind fun z5 =>
   some (z5.1, z5.2)
  else some ((-4), z2.2)
set_option maxRecDepth 100000 in
theorem dc_X8_game_0 (v1 v2 : Int) (M M' : am_M) (x : Int) (h : X_X8_game_0 v1 v2 M = some (x, M')) : am_Calls 140 [.inr (.inr (some 0)), .inl v1, .inl v2] SH M (am_rv (am_rk 140) x) SH M' :=
  vCall (F := F_X8_game_0) (C := fun _ _ _ _ => none) (fu := 7) ok_X8_game pn_X8_game ml_X8_game rfl (Nat.le_of_ble_eq_true rfl) fs_X8_game_0 (fun _ _ _ _ h => by cases h) h
noncomputable def F_X7_bestSaying_44 : Nat → List am_V → am_M → am_Rs := fun k as M => if k = 103 then (match as with
  | [.inl a0, .inl a1] => X_X7_isSlot a0 a1 M
  | _ => none) else none
theorem fs_X7_bestSaying_44 : am_FS SH F_X7_bestSaying_44 := by
  intro k as M x M' h
  unfold F_X7_bestSaying_44 at h
  split at h
  · rename_i hk; subst hk
    split at h
    · exact dc_X7_isSlot _ _ _ _ _ h
    · cases h
  cases h
noncomputable def X_X7_bestSaying_44 (v1 v2 : Int) (M : am_M) : am_Rs :=
  (X_X7_isSlot v1 v2 M).bind fun z1 =>
  if wI z1.1 = 0 then
   some (0, z1.2)
  else if 0 ≤ wI ((v1 * 13) + v2) ∧ wI ((v1 * 13) + v2) < 65 then
  some (z1.2 46 (wI ((v1 * 13) + v2)).toNat, z1.2)
  else none
set_option maxRecDepth 100000 in
theorem dc_X7_bestSaying_44 (v1 v2 : Int) (M M' : am_M) (x : Int) (h : X_X7_bestSaying_44 v1 v2 M = some (x, M')) : am_Calls 102 [.inr (.inr (some 44)), .inl v1, .inl v2] SH M (am_rv (am_rk 102) x) SH M' :=
  vCall (F := F_X7_bestSaying_44) (C := fun _ _ _ _ => none) (fu := 6) ok_X7_bestSaying pn_X7_bestSaying ml_X7_bestSaying rfl (Nat.le_of_ble_eq_true rfl) fs_X7_bestSaying_44 (fun _ _ _ _ h => by cases h) h
noncomputable def F_X8_said_0 : Nat → List am_V → am_M → am_Rs := fun k as M => if k = 96 then (match as with
  | [.inr (.inr (some 44)), .inl a1, .inl a2] => X_X7_solve_44 a1 a2 M
  | _ => none) else if k = 102 then (match as with
  | [.inr (.inr (some 44)), .inl a1, .inl a2] => X_X7_bestSaying_44 a1 a2 M
  | _ => none) else if k = 158 then (match as with
  | [.inr (.inr (some 0))] => X_X8_hasNoLand_0 M
  | _ => none) else if k = 162 then (match as with
  | [.inl a0, .inl a1] => X_X8_isGame a0 a1 M
  | _ => none) else none
theorem fs_X8_said_0 : am_FS SH F_X8_said_0 := by
  intro k as M x M' h
  unfold F_X8_said_0 at h
  split at h
  · rename_i hk; subst hk
    split at h
    · exact dc_X7_solve_44 _ _ _ _ _ h
    · cases h
  split at h
  · rename_i hk; subst hk
    split at h
    · exact dc_X7_bestSaying_44 _ _ _ _ _ h
    · cases h
  split at h
  · rename_i hk; subst hk
    split at h
    · exact dc_X8_hasNoLand_0 _ _ _ h
    · cases h
  split at h
  · rename_i hk; subst hk
    split at h
    · exact dc_X8_isGame _ _ _ _ _ h
    · cases h
  cases h
noncomputable def X_X8_said_0 (v1 v2 : Int) (M : am_M) : am_Rs :=
  (X_X8_isGame v1 v2 M).bind fun z1 =>
  if wI z1.1 = 0 then
   some ((-1), z1.2)
  else if wI v1 = 0 then
   some ((-1), z1.2)
  else (X_X8_hasNoLand_0 z1.2).bind fun z2 =>
  if wI z2.1 = 0 then
   (X_X7_solve_44 v1 v2 z2.2).bind fun z3 =>
   (X_X7_bestSaying_44 0 (z3.2 14 1) z3.2).bind fun z4 =>
   some (z4.1, z4.2)
  else some ((-4), z2.2)
set_option maxRecDepth 100000 in
theorem dc_X8_said_0 (v1 v2 : Int) (M M' : am_M) (x : Int) (h : X_X8_said_0 v1 v2 M = some (x, M')) : am_Calls 141 [.inr (.inr (some 0)), .inl v1, .inl v2] SH M (am_rv (am_rk 141) x) SH M' :=
  vCall (F := F_X8_said_0) (C := fun _ _ _ _ => none) (fu := 8) ok_X8_said pn_X8_said ml_X8_said rfl (Nat.le_of_ble_eq_true rfl) fs_X8_said_0 (fun _ _ _ _ h => by cases h) h
noncomputable def F_X7_isCalm_44 : Nat → List am_V → am_M → am_Rs := fun k as M => if k = 98 then (match as with
  | [.inr (.inr (some 44)), .inl a1, .inl a2, .inl a3] => X_X7_bestReply_44 a1 a2 a3 M
  | _ => none) else if k = 102 then (match as with
  | [.inr (.inr (some 44)), .inl a1, .inl a2] => X_X7_bestSaying_44 a1 a2 M
  | _ => none) else none
theorem fs_X7_isCalm_44 : am_FS SH F_X7_isCalm_44 := by
  intro k as M x M' h
  unfold F_X7_isCalm_44 at h
  split at h
  · rename_i hk; subst hk
    split at h
    · exact dc_X7_bestReply_44 _ _ _ _ _ _ h
    · cases h
  split at h
  · rename_i hk; subst hk
    split at h
    · exact dc_X7_bestSaying_44 _ _ _ _ _ h
    · cases h
  cases h
noncomputable def XB_X7_isCalm_44_1 (c1 : Int → Int → am_M → am_Rs) (c4 : am_M → am_Rs) (c6 : am_M → am_Rs) (v1 v2 : Int) (M : am_M) : am_Rs :=
  if wI v2 < wI v1 then
   (X_X7_bestSaying_44 v2 (M 14 1) M).bind fun z1 =>
   if wI z1.1 = 0 then
    (X_X7_bestReply_44 v2 (z1.2 14 1) 0 z1.2).bind fun z2 =>
    if wI z2.1 = 0 then
     c1 v1 (v2 + 1) z2.2
    else c4 z2.2
   else c4 z1.2
  else c6 M
set_option maxRecDepth 100000 in
theorem rs_X7_isCalm_44_1 {x : Int} {M' : am_M} {c1 : Int → Int → am_M → am_Rs} {c4 : am_M → am_Rs} {c6 : am_M → am_Rs} (h1 : ∀ w1 w2 M, c1 w1 w2 M = some (x, M') → am_R none 104 bk_X7_isCalm 1 (am_wr [47, 1, 1] [w1, w2]) [] SH M (am_rv (am_rk 104) x) SH M') (h4 : ∀ M, c4 M = some (x, M') → am_R none 104 bk_X7_isCalm 4 (am_wr [0, 0, 0] []) [] SH M (am_rv (am_rk 104) x) SH M') (h6 : ∀ M, c6 M = some (x, M') → am_R none 104 bk_X7_isCalm 6 (am_wr [0, 0, 0] []) [] SH M (am_rv (am_rk 104) x) SH M') (v1 v2 : Int) (M : am_M) (h : XB_X7_isCalm_44_1 c1 c4 c6 v1 v2 M = some (x, M')) : am_R none 104 bk_X7_isCalm 1 (am_wr [47, 1, 1] [v1, v2]) [] SH M (am_rv (am_rk 104) x) SH M' :=
  vRegion (sc := none) (sh := SH) (F := F_X7_isCalm_44) (k := 104) (bs := bk_X7_isCalm) (r := (x, M')) (C := fun t lv st M => if t = 1 then vCt [47, 1, 1] (un2 c1) lv st M else if t = 4 then vCt [0, 0, 0] (un0 c4) lv st M else if t = 6 then vCt [0, 0, 0] (un0 c6) lv st M else none) ok_X7_isCalm fs_X7_isCalm_44 (fun t lv st M h => by
    split at h
    · rename_i e; subst e; exact vCt_s (un2_s h1) h
    split at h
    · rename_i e; subst e; exact vCt_s (un0_s h4) h
    split at h
    · rename_i e; subst e; exact vCt_s (un0_s h6) h
    cases h) 9 1 (am_wr [47, 1, 1] [v1, v2]) [] M h
noncomputable def XB_X7_isCalm_44_4 (M : am_M) : am_Rs :=
  some (0, M)
set_option maxRecDepth 100000 in
theorem rs_X7_isCalm_44_4 {x : Int} {M' : am_M} (M : am_M) (h : XB_X7_isCalm_44_4 M = some (x, M')) : am_R none 104 bk_X7_isCalm 4 (am_wr [0, 0, 0] []) [] SH M (am_rv (am_rk 104) x) SH M' :=
  vRegion (sc := none) (sh := SH) (F := F_X7_isCalm_44) (k := 104) (bs := bk_X7_isCalm) (r := (x, M')) (C := fun t lv st M => none) ok_X7_isCalm fs_X7_isCalm_44 (fun t lv st M h => by
    cases h) 9 4 (am_wr [0, 0, 0] []) [] M h
noncomputable def XB_X7_isCalm_44_6 (M : am_M) : am_Rs :=
  some (1, M)
set_option maxRecDepth 100000 in
theorem rs_X7_isCalm_44_6 {x : Int} {M' : am_M} (M : am_M) (h : XB_X7_isCalm_44_6 M = some (x, M')) : am_R none 104 bk_X7_isCalm 6 (am_wr [0, 0, 0] []) [] SH M (am_rv (am_rk 104) x) SH M' :=
  vRegion (sc := none) (sh := SH) (F := F_X7_isCalm_44) (k := 104) (bs := bk_X7_isCalm) (r := (x, M')) (C := fun t lv st M => none) ok_X7_isCalm fs_X7_isCalm_44 (fun t lv st M h => by
    cases h) 9 6 (am_wr [0, 0, 0] []) [] M h
noncomputable def XB_X7_isCalm_44_e (c1 : Int → Int → am_M → am_Rs) (v1 : Int) (M : am_M) : am_Rs :=
  c1 v1 0 M
set_option maxRecDepth 100000 in
theorem rs_X7_isCalm_44_e {x : Int} {M' : am_M} {c1 : Int → Int → am_M → am_Rs} (h1 : ∀ w1 w2 M, c1 w1 w2 M = some (x, M') → am_R none 104 bk_X7_isCalm 1 (am_wr [47, 1, 1] [w1, w2]) [] SH M (am_rv (am_rk 104) x) SH M') (v1 : Int) (M : am_M) (h : XB_X7_isCalm_44_e c1 v1 M = some (x, M')) : am_R none 104 bk_X7_isCalm 0 (am_ent 3 [.inr (.inr (some 44)), .inl v1]) [] SH M (am_rv (am_rk 104) x) SH M' :=
  vRegion (sc := none) (sh := SH) (F := F_X7_isCalm_44) (k := 104) (bs := bk_X7_isCalm) (r := (x, M')) (C := fun t lv st M => if t = 1 then vCt [47, 1, 1] (un2 c1) lv st M else none) ok_X7_isCalm fs_X7_isCalm_44 (fun t lv st M h => by
    split at h
    · rename_i e; subst e; exact vCt_s (un2_s h1) h
    cases h) 9 0 (am_ent 3 [.inr (.inr (some 44)), .inl v1]) [] M h
noncomputable def XL_X7_isCalm_44_1 (k4 : am_M → am_Rs) (k6 : am_M → am_Rs) : Nat → Int → Int → am_M → am_Rs
  | 0, _, _, _ => none
  | n + 1, v1, v2, M => XB_X7_isCalm_44_1 (XL_X7_isCalm_44_1 k4 k6 n) k4 k6 v1 v2 M
theorem ls_X7_isCalm_44_1 {x : Int} {M' : am_M} {k4 : am_M → am_Rs} {k6 : am_M → am_Rs} (hk4 : ∀ M, k4 M = some (x, M') → am_R none 104 bk_X7_isCalm 4 (am_wr [0, 0, 0] []) [] SH M (am_rv (am_rk 104) x) SH M') (hk6 : ∀ M, k6 M = some (x, M') → am_R none 104 bk_X7_isCalm 6 (am_wr [0, 0, 0] []) [] SH M (am_rv (am_rk 104) x) SH M') : ∀ (n : Nat) (v1 v2 : Int) (M : am_M), XL_X7_isCalm_44_1 k4 k6 n v1 v2 M = some (x, M') → am_R none 104 bk_X7_isCalm 1 (am_wr [47, 1, 1] [v1, v2]) [] SH M (am_rv (am_rk 104) x) SH M'
  | 0, v1, v2, M, h => by cases h
  | n + 1, v1, v2, M, h => rs_X7_isCalm_44_1 (ls_X7_isCalm_44_1 hk4 hk6 n) hk4 hk6 v1 v2 M h
noncomputable def X_X7_isCalm_44 (v1 : Int) (M : am_M) : am_Rs := XB_X7_isCalm_44_e (XL_X7_isCalm_44_1 (XB_X7_isCalm_44_4) (XB_X7_isCalm_44_6) 1000) v1 M
theorem dc_X7_isCalm_44 (v1 : Int) (M M' : am_M) (x : Int) (h : X_X7_isCalm_44 v1 M = some (x, M')) : am_Calls 104 [.inr (.inr (some 44)), .inl v1] SH M (am_rv (am_rk 104) x) SH M' :=
  am_enter pn_X7_isCalm ml_X7_isCalm rfl (Nat.le_of_ble_eq_true rfl) ⟨Nat.le_refl _, Nat.le_refl _⟩ (rs_X7_isCalm_44_e (ls_X7_isCalm_44_1 (rs_X7_isCalm_44_4) (rs_X7_isCalm_44_6) 1000) v1 M h)
noncomputable def F_X8_calm_0 : Nat → List am_V → am_M → am_Rs := fun k as M => if k = 96 then (match as with
  | [.inr (.inr (some 44)), .inl a1, .inl a2] => X_X7_solve_44 a1 a2 M
  | _ => none) else if k = 104 then (match as with
  | [.inr (.inr (some 44)), .inl a1] => X_X7_isCalm_44 a1 M
  | _ => none) else if k = 158 then (match as with
  | [.inr (.inr (some 0))] => X_X8_hasNoLand_0 M
  | _ => none) else if k = 162 then (match as with
  | [.inl a0, .inl a1] => X_X8_isGame a0 a1 M
  | _ => none) else none
theorem fs_X8_calm_0 : am_FS SH F_X8_calm_0 := by
  intro k as M x M' h
  unfold F_X8_calm_0 at h
  split at h
  · rename_i hk; subst hk
    split at h
    · exact dc_X7_solve_44 _ _ _ _ _ h
    · cases h
  split at h
  · rename_i hk; subst hk
    split at h
    · exact dc_X7_isCalm_44 _ _ _ _ h
    · cases h
  split at h
  · rename_i hk; subst hk
    split at h
    · exact dc_X8_hasNoLand_0 _ _ _ h
    · cases h
  split at h
  · rename_i hk; subst hk
    split at h
    · exact dc_X8_isGame _ _ _ _ _ h
    · cases h
  cases h
noncomputable def X_X8_calm_0 (v1 v2 : Int) (M : am_M) : am_Rs :=
  (X_X8_isGame v1 v2 M).bind fun z1 =>
  if wI z1.1 = 0 then
   some ((-1), z1.2)
  else (X_X8_hasNoLand_0 z1.2).bind fun z2 =>
  if wI z2.1 = 0 then
   (X_X7_solve_44 v1 v2 z2.2).bind fun z3 =>
   (X_X7_isCalm_44 v1 z3.2).bind fun z4 =>
   if wI z4.1 = 0 then
    some (0, z4.2)
   else some (1, z4.2)
  else some ((-4), z2.2)
set_option maxRecDepth 100000 in
theorem dc_X8_calm_0 (v1 v2 : Int) (M M' : am_M) (x : Int) (h : X_X8_calm_0 v1 v2 M = some (x, M')) : am_Calls 142 [.inr (.inr (some 0)), .inl v1, .inl v2] SH M (am_rv (am_rk 142) x) SH M' :=
  vCall (F := F_X8_calm_0) (C := fun _ _ _ _ => none) (fu := 10) ok_X8_calm pn_X8_calm ml_X8_calm rfl (Nat.le_of_ble_eq_true rfl) fs_X8_calm_0 (fun _ _ _ _ h => by cases h) h
noncomputable def F_X8_law_0 : Nat → List am_V → am_M → am_Rs := fun k as M => if k = 21 then (match as with
  | [.inr (.inr (some 14)), .inl a1] => X_X1_borderAhead_14 a1 M
  | _ => none) else if k = 33 then (match as with
  | [.inr (.inr (some 11)), .inl a1] => X_X2_has_11 a1 M
  | _ => none) else if k = 37 then (match as with
  | [.inr (.inr (some 11)), .inl a1, .inl a2] => X_X2_isOf_11 a1 a2 M
  | _ => none) else if k = 39 then (match as with
  | [.inl a0, .inl a1] => X_X2_crownOf a0 a1 M
  | _ => none) else if k = 40 then (match as with
  | [.inl a0, .inl a1] => X_X2_touches a0 a1 M
  | _ => none) else none
theorem fs_X8_law_0 : am_FS SH F_X8_law_0 := by
  intro k as M x M' h
  unfold F_X8_law_0 at h
  split at h
  · rename_i hk; subst hk
    split at h
    · exact dc_X1_borderAhead_14 _ _ _ _ h
    · cases h
  split at h
  · rename_i hk; subst hk
    split at h
    · exact dc_X2_has_11 _ _ _ _ h
    · cases h
  split at h
  · rename_i hk; subst hk
    split at h
    · exact dc_X2_isOf_11 _ _ _ _ _ h
    · cases h
  split at h
  · rename_i hk; subst hk
    split at h
    · exact dc_X2_crownOf _ _ _ _ _ h
    · cases h
  split at h
  · rename_i hk; subst hk
    split at h
    · exact dc_X2_touches _ _ _ _ _ h
    · cases h
  cases h
noncomputable def X_X8_law_0 (v1 v2 : Int) (M : am_M) : am_Rs :=
  (X_X2_has_11 v1 M).bind fun z1 =>
  if wI z1.1 = 0 then
   some ((-1), z1.2)
  else if wI v2 < 0 then
   some ((-1), z1.2)
  else if 40 < wI v2 then
   some ((-1), z1.2)
  else if wI (z1.2 14 0) < wI v2 then
   some ((-4), z1.2)
  else (X_X1_borderAhead_14 v2 z1.2).bind fun z2 =>
  (X_X2_isOf_11 v1 5 z2.2).bind fun z3 =>
  if wI z3.1 = 0 then
   (X_X2_crownOf v1 z2.1 z3.2).bind fun z4 =>
   some (b_shl_ 1 z4.1, z4.2)
  else (X_X2_touches v1 z2.1 z3.2).bind fun z4 =>
  if wI z4.1 = 0 then
   (X_X2_crownOf v1 z2.1 z4.2).bind fun z5 =>
   some (b_shl_ 1 z5.1, z5.2)
  else some (3, z4.2)
set_option maxRecDepth 100000 in
theorem dc_X8_law_0 (v1 v2 : Int) (M M' : am_M) (x : Int) (h : X_X8_law_0 v1 v2 M = some (x, M')) : am_Calls 143 [.inr (.inr (some 0)), .inl v1, .inl v2] SH M (am_rv (am_rk 143) x) SH M' :=
  vCall (F := F_X8_law_0) (C := fun _ _ _ _ => none) (fu := 12) ok_X8_law pn_X8_law ml_X8_law rfl (Nat.le_of_ble_eq_true rfl) fs_X8_law_0 (fun _ _ _ _ h => by cases h) h
noncomputable def F_X3_areBooks_47_1 : Nat → List am_V → am_M → am_Rs := fun k as M => if k = 33 then (match as with
  | [.inr (.inr (some 11)), .inl a1] => X_X2_has_11 a1 M
  | _ => none) else if k = 83 then (match as with
  | [.inr (.inr (some 1)), .inl a1] => X_X6_sizeOf_1 a1 M
  | _ => none) else if k = 88 then (match as with
  | [.inr (.inr (some 1)), .inl a1, .inl a2] => X_X6_get_1 a1 a2 M
  | _ => none) else if k = 159 then (match as with
  | [.inl a0] => X_X8_isCrown a0 M
  | _ => none) else none
theorem fs_X3_areBooks_47_1 : am_FS SH F_X3_areBooks_47_1 := by
  intro k as M x M' h
  unfold F_X3_areBooks_47_1 at h
  split at h
  · rename_i hk; subst hk
    split at h
    · exact dc_X2_has_11 _ _ _ _ h
    · cases h
  split at h
  · rename_i hk; subst hk
    split at h
    · exact dc_X6_sizeOf_1 _ _ _ _ h
    · cases h
  split at h
  · rename_i hk; subst hk
    split at h
    · exact dc_X6_get_1 _ _ _ _ _ h
    · cases h
  split at h
  · rename_i hk; subst hk
    split at h
    · exact dc_X8_isCrown _ _ _ _ h
    · cases h
  cases h
noncomputable def XB_X3_areBooks_47_1_1 (c1 : Int → Int → am_M → am_Rs) (c4 : am_M → am_Rs) (c7 : am_M → am_Rs) (c9 : am_M → am_Rs) (v2 v3 : Int) (M : am_M) : am_Rs :=
  (X_X6_sizeOf_1 v2 M).bind fun z1 =>
  if wI v3 < wI z1.1 then
   (X_X6_get_1 v2 v3 z1.2).bind fun z2 =>
   if wI z2.1 < 0 then
    c4 z2.2
   else if wI (z2.2 14 0) < wI z2.1 then
    c4 z2.2
   else (X_X6_get_1 v2 (v3 + 1) z2.2).bind fun z3 =>
   (X_X2_has_11 z3.1 z3.2).bind fun z4 =>
   if wI z4.1 = 0 then
    c7 z4.2
   else (X_X6_get_1 v2 (v3 + 2) z4.2).bind fun z5 =>
   (X_X8_isCrown z5.1 z5.2).bind fun z6 =>
   if wI z6.1 = 0 then
    c7 z6.2
   else c1 v2 (v3 + 3) z6.2
  else c9 z1.2
set_option maxRecDepth 100000 in
theorem rs_X3_areBooks_47_1_1 {x : Int} {M' : am_M} {c1 : Int → Int → am_M → am_Rs} {c4 : am_M → am_Rs} {c7 : am_M → am_Rs} {c9 : am_M → am_Rs} (h1 : ∀ w2 w3 M, c1 w2 w3 M = some (x, M') → am_R none 45 bk_X3_areBooks 1 (am_wr [50, 4, 1, 1, 0] [w2, w3]) [] SH M (am_rv (am_rk 45) x) SH M') (h4 : ∀ M, c4 M = some (x, M') → am_R none 45 bk_X3_areBooks 4 (am_wr [0, 0, 0, 0, 0] []) [] SH M (am_rv (am_rk 45) x) SH M') (h7 : ∀ M, c7 M = some (x, M') → am_R none 45 bk_X3_areBooks 7 (am_wr [0, 0, 0, 0, 0] []) [] SH M (am_rv (am_rk 45) x) SH M') (h9 : ∀ M, c9 M = some (x, M') → am_R none 45 bk_X3_areBooks 9 (am_wr [0, 0, 0, 0, 0] []) [] SH M (am_rv (am_rk 45) x) SH M') (v2 v3 : Int) (M : am_M) (h : XB_X3_areBooks_47_1_1 c1 c4 c7 c9 v2 v3 M = some (x, M')) : am_R none 45 bk_X3_areBooks 1 (am_wr [50, 4, 1, 1, 0] [v2, v3]) [] SH M (am_rv (am_rk 45) x) SH M' :=
  vRegion (sc := none) (sh := SH) (F := F_X3_areBooks_47_1) (k := 45) (bs := bk_X3_areBooks) (r := (x, M')) (C := fun t lv st M => if t = 1 then vCt [50, 4, 1, 1, 0] (un2 c1) lv st M else if t = 4 then vCt [0, 0, 0, 0, 0] (un0 c4) lv st M else if t = 7 then vCt [0, 0, 0, 0, 0] (un0 c7) lv st M else if t = 9 then vCt [0, 0, 0, 0, 0] (un0 c9) lv st M else none) ok_X3_areBooks fs_X3_areBooks_47_1 (fun t lv st M h => by
    split at h
    · rename_i e; subst e; exact vCt_s (un2_s h1) h
    split at h
    · rename_i e; subst e; exact vCt_s (un0_s h4) h
    split at h
    · rename_i e; subst e; exact vCt_s (un0_s h7) h
    split at h
    · rename_i e; subst e; exact vCt_s (un0_s h9) h
    cases h) 12 1 (am_wr [50, 4, 1, 1, 0] [v2, v3]) [] M h
noncomputable def XB_X3_areBooks_47_1_4 (M : am_M) : am_Rs :=
  some (0, M)
set_option maxRecDepth 100000 in
theorem rs_X3_areBooks_47_1_4 {x : Int} {M' : am_M} (M : am_M) (h : XB_X3_areBooks_47_1_4 M = some (x, M')) : am_R none 45 bk_X3_areBooks 4 (am_wr [0, 0, 0, 0, 0] []) [] SH M (am_rv (am_rk 45) x) SH M' :=
  vRegion (sc := none) (sh := SH) (F := F_X3_areBooks_47_1) (k := 45) (bs := bk_X3_areBooks) (r := (x, M')) (C := fun t lv st M => none) ok_X3_areBooks fs_X3_areBooks_47_1 (fun t lv st M h => by
    cases h) 12 4 (am_wr [0, 0, 0, 0, 0] []) [] M h
noncomputable def XB_X3_areBooks_47_1_7 (M : am_M) : am_Rs :=
  some (0, M)
set_option maxRecDepth 100000 in
theorem rs_X3_areBooks_47_1_7 {x : Int} {M' : am_M} (M : am_M) (h : XB_X3_areBooks_47_1_7 M = some (x, M')) : am_R none 45 bk_X3_areBooks 7 (am_wr [0, 0, 0, 0, 0] []) [] SH M (am_rv (am_rk 45) x) SH M' :=
  vRegion (sc := none) (sh := SH) (F := F_X3_areBooks_47_1) (k := 45) (bs := bk_X3_areBooks) (r := (x, M')) (C := fun t lv st M => none) ok_X3_areBooks fs_X3_areBooks_47_1 (fun t lv st M h => by
    cases h) 12 7 (am_wr [0, 0, 0, 0, 0] []) [] M h
noncomputable def XB_X3_areBooks_47_1_9 (M : am_M) : am_Rs :=
  some (1, M)
set_option maxRecDepth 100000 in
theorem rs_X3_areBooks_47_1_9 {x : Int} {M' : am_M} (M : am_M) (h : XB_X3_areBooks_47_1_9 M = some (x, M')) : am_R none 45 bk_X3_areBooks 9 (am_wr [0, 0, 0, 0, 0] []) [] SH M (am_rv (am_rk 45) x) SH M' :=
  vRegion (sc := none) (sh := SH) (F := F_X3_areBooks_47_1) (k := 45) (bs := bk_X3_areBooks) (r := (x, M')) (C := fun t lv st M => none) ok_X3_areBooks fs_X3_areBooks_47_1 (fun t lv st M h => by
    cases h) 12 9 (am_wr [0, 0, 0, 0, 0] []) [] M h
noncomputable def XB_X3_areBooks_47_1_e (c1 : Int → Int → am_M → am_Rs) (v2 : Int) (M : am_M) : am_Rs :=
  c1 v2 0 M
set_option maxRecDepth 100000 in
theorem rs_X3_areBooks_47_1_e {x : Int} {M' : am_M} {c1 : Int → Int → am_M → am_Rs} (h1 : ∀ w2 w3 M, c1 w2 w3 M = some (x, M') → am_R none 45 bk_X3_areBooks 1 (am_wr [50, 4, 1, 1, 0] [w2, w3]) [] SH M (am_rv (am_rk 45) x) SH M') (v2 : Int) (M : am_M) (h : XB_X3_areBooks_47_1_e c1 v2 M = some (x, M')) : am_R none 45 bk_X3_areBooks 0 (am_ent 5 [.inr (.inr (some 47)), .inr (.inr (some 1)), .inl v2]) [] SH M (am_rv (am_rk 45) x) SH M' :=
  vRegion (sc := none) (sh := SH) (F := F_X3_areBooks_47_1) (k := 45) (bs := bk_X3_areBooks) (r := (x, M')) (C := fun t lv st M => if t = 1 then vCt [50, 4, 1, 1, 0] (un2 c1) lv st M else none) ok_X3_areBooks fs_X3_areBooks_47_1 (fun t lv st M h => by
    split at h
    · rename_i e; subst e; exact vCt_s (un2_s h1) h
    cases h) 12 0 (am_ent 5 [.inr (.inr (some 47)), .inr (.inr (some 1)), .inl v2]) [] M h
noncomputable def XL_X3_areBooks_47_1_1 (k4 : am_M → am_Rs) (k7 : am_M → am_Rs) (k9 : am_M → am_Rs) : Nat → Int → Int → am_M → am_Rs
  | 0, _, _, _ => none
  | n + 1, v2, v3, M => XB_X3_areBooks_47_1_1 (XL_X3_areBooks_47_1_1 k4 k7 k9 n) k4 k7 k9 v2 v3 M
theorem ls_X3_areBooks_47_1_1 {x : Int} {M' : am_M} {k4 : am_M → am_Rs} {k7 : am_M → am_Rs} {k9 : am_M → am_Rs} (hk4 : ∀ M, k4 M = some (x, M') → am_R none 45 bk_X3_areBooks 4 (am_wr [0, 0, 0, 0, 0] []) [] SH M (am_rv (am_rk 45) x) SH M') (hk7 : ∀ M, k7 M = some (x, M') → am_R none 45 bk_X3_areBooks 7 (am_wr [0, 0, 0, 0, 0] []) [] SH M (am_rv (am_rk 45) x) SH M') (hk9 : ∀ M, k9 M = some (x, M') → am_R none 45 bk_X3_areBooks 9 (am_wr [0, 0, 0, 0, 0] []) [] SH M (am_rv (am_rk 45) x) SH M') : ∀ (n : Nat) (v2 v3 : Int) (M : am_M), XL_X3_areBooks_47_1_1 k4 k7 k9 n v2 v3 M = some (x, M') → am_R none 45 bk_X3_areBooks 1 (am_wr [50, 4, 1, 1, 0] [v2, v3]) [] SH M (am_rv (am_rk 45) x) SH M'
  | 0, v2, v3, M, h => by cases h
  | n + 1, v2, v3, M, h => rs_X3_areBooks_47_1_1 (ls_X3_areBooks_47_1_1 hk4 hk7 hk9 n) hk4 hk7 hk9 v2 v3 M h
noncomputable def X_X3_areBooks_47_1 (v2 : Int) (M : am_M) : am_Rs := XB_X3_areBooks_47_1_e (XL_X3_areBooks_47_1_1 (XB_X3_areBooks_47_1_4) (XB_X3_areBooks_47_1_7) (XB_X3_areBooks_47_1_9) 1000) v2 M
theorem dc_X3_areBooks_47_1 (v2 : Int) (M M' : am_M) (x : Int) (h : X_X3_areBooks_47_1 v2 M = some (x, M')) : am_Calls 45 [.inr (.inr (some 47)), .inr (.inr (some 1)), .inl v2] SH M (am_rv (am_rk 45) x) SH M' :=
  am_enter pn_X3_areBooks ml_X3_areBooks rfl (Nat.le_of_ble_eq_true rfl) ⟨Nat.le_refl _, Nat.le_refl _⟩ (rs_X3_areBooks_47_1_e (ls_X3_areBooks_47_1_1 (rs_X3_areBooks_47_1_4) (rs_X3_areBooks_47_1_7) (rs_X3_areBooks_47_1_9) 1000) v2 M h)
noncomputable def F_X1_retrace_14_11_51 : Nat → List am_V → am_M → am_Rs := fun k as M => if k = 42 then (match as with
  | [.inr (.inr (some 11)), .inl a1, .inl a2, .inl a3, .inl a4] => X_X2_borderAfter_11 a1 a2 a3 a4 M
  | _ => none) else none
theorem fs_X1_retrace_14_11_51 : am_FS SH F_X1_retrace_14_11_51 := by
  intro k as M x M' h
  unfold F_X1_retrace_14_11_51 at h
  split at h
  · rename_i hk; subst hk
    split at h
    · exact dc_X2_borderAfter_11 _ _ _ _ _ _ _ h
    · cases h
  cases h
noncomputable def XB_X1_retrace_14_11_51_3 (c3 : Int → am_M → am_Rs) (c6 : am_M → am_Rs) (v4 : Int) (M : am_M) : am_Rs :=
  if wI v4 < wI (M 14 0) then
   if wI v4 < 40 then
    if 0 ≤ wI v4 ∧ wI v4 < 41 then
    if 0 ≤ wI v4 ∧ wI v4 < 40 then
     if 0 ≤ wI v4 ∧ wI v4 < 40 then
      (X_X2_borderAfter_11 (M 51 (wI v4).toNat) v4 (M 15 (wI v4).toNat) (M 16 (wI v4).toNat) M).bind fun z1 =>
       if 0 ≤ wI (v4 + 1) ∧ wI (v4 + 1) < 41 then
       c3 (v4 + 1) (am_up z1.2 51 (wI (v4 + 1)).toNat z1.1)
       else none
      else none
     else none
    else none
   else c6 M
  else c6 M
set_option maxRecDepth 100000 in
theorem rs_X1_retrace_14_11_51_3 {x : Int} {M' : am_M} {c3 : Int → am_M → am_Rs} {c6 : am_M → am_Rs} (h3 : ∀ w4 M, c3 w4 M = some (x, M') → am_R none 26 bk_X1_retrace 3 (am_wr [17, 14, 0, 54, 1] [w4]) [] SH M (am_rv (am_rk 26) x) SH M') (h6 : ∀ M, c6 M = some (x, M') → am_R none 26 bk_X1_retrace 6 (am_wr [0, 0, 0, 0, 0] []) [] SH M (am_rv (am_rk 26) x) SH M') (v4 : Int) (M : am_M) (h : XB_X1_retrace_14_11_51_3 c3 c6 v4 M = some (x, M')) : am_R none 26 bk_X1_retrace 3 (am_wr [17, 14, 0, 54, 1] [v4]) [] SH M (am_rv (am_rk 26) x) SH M' :=
  vRegion (sc := none) (sh := SH) (F := F_X1_retrace_14_11_51) (k := 26) (bs := bk_X1_retrace) (r := (x, M')) (C := fun t lv st M => if t = 3 then vCt [17, 14, 0, 54, 1] (un1 c3) lv st M else if t = 6 then vCt [0, 0, 0, 0, 0] (un0 c6) lv st M else none) ok_X1_retrace fs_X1_retrace_14_11_51 (fun t lv st M h => by
    split at h
    · rename_i e; subst e; exact vCt_s (un1_s h3) h
    split at h
    · rename_i e; subst e; exact vCt_s (un0_s h6) h
    cases h) 9 3 (am_wr [17, 14, 0, 54, 1] [v4]) [] M h
noncomputable def XB_X1_retrace_14_11_51_6 (M : am_M) : am_Rs :=
  some (0, M)
set_option maxRecDepth 100000 in
theorem rs_X1_retrace_14_11_51_6 {x : Int} {M' : am_M} (M : am_M) (h : XB_X1_retrace_14_11_51_6 M = some (x, M')) : am_R none 26 bk_X1_retrace 6 (am_wr [0, 0, 0, 0, 0] []) [] SH M (am_rv (am_rk 26) x) SH M' :=
  vRegion (sc := none) (sh := SH) (F := F_X1_retrace_14_11_51) (k := 26) (bs := bk_X1_retrace) (r := (x, M')) (C := fun t lv st M => none) ok_X1_retrace fs_X1_retrace_14_11_51 (fun t lv st M h => by
    cases h) 9 6 (am_wr [0, 0, 0, 0, 0] []) [] M h
noncomputable def XB_X1_retrace_14_11_51_e (c3 : Int → am_M → am_Rs) (v2 : Int) (M : am_M) : am_Rs :=
  c3 0 (am_up M 51 0 v2)
set_option maxRecDepth 100000 in
theorem rs_X1_retrace_14_11_51_e {x : Int} {M' : am_M} {c3 : Int → am_M → am_Rs} (h3 : ∀ w4 M, c3 w4 M = some (x, M') → am_R none 26 bk_X1_retrace 3 (am_wr [17, 14, 0, 54, 1] [w4]) [] SH M (am_rv (am_rk 26) x) SH M') (v2 : Int) (M : am_M) (h : XB_X1_retrace_14_11_51_e c3 v2 M = some (x, M')) : am_R none 26 bk_X1_retrace 0 (am_ent 5 [.inr (.inr (some 14)), .inr (.inr (some 11)), .inl v2, .inr (.inr (some 51))]) [] SH M (am_rv (am_rk 26) x) SH M' :=
  vRegion (sc := none) (sh := SH) (F := F_X1_retrace_14_11_51) (k := 26) (bs := bk_X1_retrace) (r := (x, M')) (C := fun t lv st M => if t = 3 then vCt [17, 14, 0, 54, 1] (un1 c3) lv st M else none) ok_X1_retrace fs_X1_retrace_14_11_51 (fun t lv st M h => by
    split at h
    · rename_i e; subst e; exact vCt_s (un1_s h3) h
    cases h) 9 0 (am_ent 5 [.inr (.inr (some 14)), .inr (.inr (some 11)), .inl v2, .inr (.inr (some 51))]) [] M h
noncomputable def XL_X1_retrace_14_11_51_3 (k6 : am_M → am_Rs) : Nat → Int → am_M → am_Rs
  | 0, _, _ => none
  | n + 1, v4, M => XB_X1_retrace_14_11_51_3 (XL_X1_retrace_14_11_51_3 k6 n) k6 v4 M
theorem ls_X1_retrace_14_11_51_3 {x : Int} {M' : am_M} {k6 : am_M → am_Rs} (hk6 : ∀ M, k6 M = some (x, M') → am_R none 26 bk_X1_retrace 6 (am_wr [0, 0, 0, 0, 0] []) [] SH M (am_rv (am_rk 26) x) SH M') : ∀ (n : Nat) (v4 : Int) (M : am_M), XL_X1_retrace_14_11_51_3 k6 n v4 M = some (x, M') → am_R none 26 bk_X1_retrace 3 (am_wr [17, 14, 0, 54, 1] [v4]) [] SH M (am_rv (am_rk 26) x) SH M'
  | 0, v4, M, h => by cases h
  | n + 1, v4, M, h => rs_X1_retrace_14_11_51_3 (ls_X1_retrace_14_11_51_3 hk6 n) hk6 v4 M h
noncomputable def X_X1_retrace_14_11_51 (v2 : Int) (M : am_M) : am_Rs := XB_X1_retrace_14_11_51_e (XL_X1_retrace_14_11_51_3 (XB_X1_retrace_14_11_51_6) 1000) v2 M
theorem dc_X1_retrace_14_11_51 (v2 : Int) (M M' : am_M) (x : Int) (h : X_X1_retrace_14_11_51 v2 M = some (x, M')) : am_Calls 26 [.inr (.inr (some 14)), .inr (.inr (some 11)), .inl v2, .inr (.inr (some 51))] SH M (am_rv (am_rk 26) x) SH M' :=
  am_enter pn_X1_retrace ml_X1_retrace rfl (Nat.le_of_ble_eq_true rfl) ⟨Nat.le_refl _, Nat.le_refl _⟩ (rs_X1_retrace_14_11_51_e (ls_X1_retrace_14_11_51_3 (rs_X1_retrace_14_11_51_6) 1000) v2 M h)
noncomputable def X_X3_trailAt_47 (v1 : Int) (M : am_M) : am_Rs :=
  if wI v1 < 0 then
   some (0, M)
  else if 40 < wI v1 then
   some (0, M)
  else if 0 ≤ wI v1 ∧ wI v1 < 41 then
  some (M 51 (wI v1).toNat, M)
  else none
set_option maxRecDepth 100000 in
theorem dc_X3_trailAt_47 (v1 : Int) (M M' : am_M) (x : Int) (h : X_X3_trailAt_47 v1 M = some (x, M')) : am_Calls 48 [.inr (.inr (some 47)), .inl v1] SH M (am_rv (am_rk 48) x) SH M' :=
  vCall (F := F_none) (C := fun _ _ _ _ => none) (fu := 7) ok_X3_trailAt pn_X3_trailAt ml_X3_trailAt rfl (Nat.le_of_ble_eq_true rfl) fs_none (fun _ _ _ _ h => by cases h) h
noncomputable def F_X3_fits_47_1 : Nat → List am_V → am_M → am_Rs := fun k as M => if k = 39 then (match as with
  | [.inl a0, .inl a1] => X_X2_crownOf a0 a1 M
  | _ => none) else if k = 48 then (match as with
  | [.inr (.inr (some 47)), .inl a1] => X_X3_trailAt_47 a1 M
  | _ => none) else if k = 83 then (match as with
  | [.inr (.inr (some 1)), .inl a1] => X_X6_sizeOf_1 a1 M
  | _ => none) else if k = 88 then (match as with
  | [.inr (.inr (some 1)), .inl a1, .inl a2] => X_X6_get_1 a1 a2 M
  | _ => none) else none
theorem fs_X3_fits_47_1 : am_FS SH F_X3_fits_47_1 := by
  intro k as M x M' h
  unfold F_X3_fits_47_1 at h
  split at h
  · rename_i hk; subst hk
    split at h
    · exact dc_X2_crownOf _ _ _ _ _ h
    · cases h
  split at h
  · rename_i hk; subst hk
    split at h
    · exact dc_X3_trailAt_47 _ _ _ _ h
    · cases h
  split at h
  · rename_i hk; subst hk
    split at h
    · exact dc_X6_sizeOf_1 _ _ _ _ h
    · cases h
  split at h
  · rename_i hk; subst hk
    split at h
    · exact dc_X6_get_1 _ _ _ _ _ h
    · cases h
  cases h
noncomputable def XB_X3_fits_47_1_1 (c1 : Int → Int → am_M → am_Rs) (c5 : am_M → am_Rs) (v2 v3 : Int) (M : am_M) : am_Rs :=
  (X_X6_sizeOf_1 v2 M).bind fun z1 =>
  if wI v3 < wI z1.1 then
   (X_X6_get_1 v2 v3 z1.2).bind fun z2 =>
   (X_X3_trailAt_47 z2.1 z2.2).bind fun z3 =>
   (X_X6_get_1 v2 (v3 + 1) z3.2).bind fun z4 =>
   (X_X2_crownOf z4.1 z3.1 z4.2).bind fun z5 =>
   (X_X6_get_1 v2 (v3 + 2) z5.2).bind fun z6 =>
   if wI z5.1 = wI z6.1 then
    c1 v2 (v3 + 3) z6.2
   else some (0, z6.2)
  else c5 z1.2
set_option maxRecDepth 100000 in
theorem rs_X3_fits_47_1_1 {x : Int} {M' : am_M} {c1 : Int → Int → am_M → am_Rs} {c5 : am_M → am_Rs} (h1 : ∀ w2 w3 M, c1 w2 w3 M = some (x, M') → am_R none 47 bk_X3_fits 1 (am_wr [50, 4, 1, 1, 0] [w2, w3]) [] SH M (am_rv (am_rk 47) x) SH M') (h5 : ∀ M, c5 M = some (x, M') → am_R none 47 bk_X3_fits 5 (am_wr [0, 0, 0, 0, 0] []) [] SH M (am_rv (am_rk 47) x) SH M') (v2 v3 : Int) (M : am_M) (h : XB_X3_fits_47_1_1 c1 c5 v2 v3 M = some (x, M')) : am_R none 47 bk_X3_fits 1 (am_wr [50, 4, 1, 1, 0] [v2, v3]) [] SH M (am_rv (am_rk 47) x) SH M' :=
  vRegion (sc := none) (sh := SH) (F := F_X3_fits_47_1) (k := 47) (bs := bk_X3_fits) (r := (x, M')) (C := fun t lv st M => if t = 1 then vCt [50, 4, 1, 1, 0] (un2 c1) lv st M else if t = 5 then vCt [0, 0, 0, 0, 0] (un0 c5) lv st M else none) ok_X3_fits fs_X3_fits_47_1 (fun t lv st M h => by
    split at h
    · rename_i e; subst e; exact vCt_s (un2_s h1) h
    split at h
    · rename_i e; subst e; exact vCt_s (un0_s h5) h
    cases h) 8 1 (am_wr [50, 4, 1, 1, 0] [v2, v3]) [] M h
noncomputable def XB_X3_fits_47_1_5 (M : am_M) : am_Rs :=
  some (1, M)
set_option maxRecDepth 100000 in
theorem rs_X3_fits_47_1_5 {x : Int} {M' : am_M} (M : am_M) (h : XB_X3_fits_47_1_5 M = some (x, M')) : am_R none 47 bk_X3_fits 5 (am_wr [0, 0, 0, 0, 0] []) [] SH M (am_rv (am_rk 47) x) SH M' :=
  vRegion (sc := none) (sh := SH) (F := F_X3_fits_47_1) (k := 47) (bs := bk_X3_fits) (r := (x, M')) (C := fun t lv st M => none) ok_X3_fits fs_X3_fits_47_1 (fun t lv st M h => by
    cases h) 8 5 (am_wr [0, 0, 0, 0, 0] []) [] M h
noncomputable def XB_X3_fits_47_1_e (c1 : Int → Int → am_M → am_Rs) (v2 : Int) (M : am_M) : am_Rs :=
  c1 v2 0 M
set_option maxRecDepth 100000 in
theorem rs_X3_fits_47_1_e {x : Int} {M' : am_M} {c1 : Int → Int → am_M → am_Rs} (h1 : ∀ w2 w3 M, c1 w2 w3 M = some (x, M') → am_R none 47 bk_X3_fits 1 (am_wr [50, 4, 1, 1, 0] [w2, w3]) [] SH M (am_rv (am_rk 47) x) SH M') (v2 : Int) (M : am_M) (h : XB_X3_fits_47_1_e c1 v2 M = some (x, M')) : am_R none 47 bk_X3_fits 0 (am_ent 5 [.inr (.inr (some 47)), .inr (.inr (some 1)), .inl v2]) [] SH M (am_rv (am_rk 47) x) SH M' :=
  vRegion (sc := none) (sh := SH) (F := F_X3_fits_47_1) (k := 47) (bs := bk_X3_fits) (r := (x, M')) (C := fun t lv st M => if t = 1 then vCt [50, 4, 1, 1, 0] (un2 c1) lv st M else none) ok_X3_fits fs_X3_fits_47_1 (fun t lv st M h => by
    split at h
    · rename_i e; subst e; exact vCt_s (un2_s h1) h
    cases h) 8 0 (am_ent 5 [.inr (.inr (some 47)), .inr (.inr (some 1)), .inl v2]) [] M h
noncomputable def XL_X3_fits_47_1_1 (k5 : am_M → am_Rs) : Nat → Int → Int → am_M → am_Rs
  | 0, _, _, _ => none
  | n + 1, v2, v3, M => XB_X3_fits_47_1_1 (XL_X3_fits_47_1_1 k5 n) k5 v2 v3 M
theorem ls_X3_fits_47_1_1 {x : Int} {M' : am_M} {k5 : am_M → am_Rs} (hk5 : ∀ M, k5 M = some (x, M') → am_R none 47 bk_X3_fits 5 (am_wr [0, 0, 0, 0, 0] []) [] SH M (am_rv (am_rk 47) x) SH M') : ∀ (n : Nat) (v2 v3 : Int) (M : am_M), XL_X3_fits_47_1_1 k5 n v2 v3 M = some (x, M') → am_R none 47 bk_X3_fits 1 (am_wr [50, 4, 1, 1, 0] [v2, v3]) [] SH M (am_rv (am_rk 47) x) SH M'
  | 0, v2, v3, M, h => by cases h
  | n + 1, v2, v3, M, h => rs_X3_fits_47_1_1 (ls_X3_fits_47_1_1 hk5 n) hk5 v2 v3 M h
noncomputable def X_X3_fits_47_1 (v2 : Int) (M : am_M) : am_Rs := XB_X3_fits_47_1_e (XL_X3_fits_47_1_1 (XB_X3_fits_47_1_5) 1000) v2 M
theorem dc_X3_fits_47_1 (v2 : Int) (M M' : am_M) (x : Int) (h : X_X3_fits_47_1 v2 M = some (x, M')) : am_Calls 47 [.inr (.inr (some 47)), .inr (.inr (some 1)), .inl v2] SH M (am_rv (am_rk 47) x) SH M' :=
  am_enter pn_X3_fits ml_X3_fits rfl (Nat.le_of_ble_eq_true rfl) ⟨Nat.le_refl _, Nat.le_refl _⟩ (rs_X3_fits_47_1_e (ls_X3_fits_47_1_1 (rs_X3_fits_47_1_5) 1000) v2 M h)
noncomputable def F_X3_startsThatFit_47_1 : Nat → List am_V → am_M → am_Rs := fun k as M => if k = 26 then (match as with
  | [.inr (.inr (some 14)), .inr (.inr (some 11)), .inl a2, .inr (.inr (some 51))] => X_X1_retrace_14_11_51 a2 M
  | _ => none) else if k = 47 then (match as with
  | [.inr (.inr (some 47)), .inr (.inr (some 1)), .inl a2] => X_X3_fits_47_1 a2 M
  | _ => none) else none
theorem fs_X3_startsThatFit_47_1 : am_FS SH F_X3_startsThatFit_47_1 := by
  intro k as M x M' h
  unfold F_X3_startsThatFit_47_1 at h
  split at h
  · rename_i hk; subst hk
    split at h
    · exact dc_X1_retrace_14_11_51 _ _ _ _ h
    · cases h
  split at h
  · rename_i hk; subst hk
    split at h
    · exact dc_X3_fits_47_1 _ _ _ _ h
    · cases h
  cases h
noncomputable def XB_X3_startsThatFit_47_1_1 (c1 : Int → Int → Int → am_M → am_Rs) (c5 : Int → am_M → am_Rs) (v2 v3 v4 : Int) (M : am_M) : am_Rs :=
  if wI (M 11 0) < wI v4 then
   c5 v3 M
  else (X_X1_retrace_14_11_51 v4 M).bind fun z1 =>
  (X_X3_fits_47_1 v2 z1.2).bind fun z2 =>
  if wI z2.1 = 0 then
   c1 v2 v3 (v4 + 1) z2.2
  else c1 v2 (b_or_ v3 (b_shl_ 1 v4)) (v4 + 1) z2.2
set_option maxRecDepth 100000 in
theorem rs_X3_startsThatFit_47_1_1 {x : Int} {M' : am_M} {c1 : Int → Int → Int → am_M → am_Rs} {c5 : Int → am_M → am_Rs} (h1 : ∀ w2 w3 w4 M, c1 w2 w3 w4 M = some (x, M') → am_R none 46 bk_X3_startsThatFit 1 (am_wr [50, 4, 1, 1, 1] [w2, w3, w4]) [] SH M (am_rv (am_rk 46) x) SH M') (h5 : ∀ w3 M, c5 w3 M = some (x, M') → am_R none 46 bk_X3_startsThatFit 5 (am_wr [0, 0, 0, 1, 0] [w3]) [] SH M (am_rv (am_rk 46) x) SH M') (v2 v3 v4 : Int) (M : am_M) (h : XB_X3_startsThatFit_47_1_1 c1 c5 v2 v3 v4 M = some (x, M')) : am_R none 46 bk_X3_startsThatFit 1 (am_wr [50, 4, 1, 1, 1] [v2, v3, v4]) [] SH M (am_rv (am_rk 46) x) SH M' :=
  vRegion (sc := none) (sh := SH) (F := F_X3_startsThatFit_47_1) (k := 46) (bs := bk_X3_startsThatFit) (r := (x, M')) (C := fun t lv st M => if t = 1 then vCt [50, 4, 1, 1, 1] (un3 c1) lv st M else if t = 5 then vCt [0, 0, 0, 1, 0] (un1 c5) lv st M else none) ok_X3_startsThatFit fs_X3_startsThatFit_47_1 (fun t lv st M h => by
    split at h
    · rename_i e; subst e; exact vCt_s (un3_s h1) h
    split at h
    · rename_i e; subst e; exact vCt_s (un1_s h5) h
    cases h) 8 1 (am_wr [50, 4, 1, 1, 1] [v2, v3, v4]) [] M h
noncomputable def XB_X3_startsThatFit_47_1_5 (v3 : Int) (M : am_M) : am_Rs :=
  some (v3, M)
set_option maxRecDepth 100000 in
theorem rs_X3_startsThatFit_47_1_5 {x : Int} {M' : am_M} (v3 : Int) (M : am_M) (h : XB_X3_startsThatFit_47_1_5 v3 M = some (x, M')) : am_R none 46 bk_X3_startsThatFit 5 (am_wr [0, 0, 0, 1, 0] [v3]) [] SH M (am_rv (am_rk 46) x) SH M' :=
  vRegion (sc := none) (sh := SH) (F := F_X3_startsThatFit_47_1) (k := 46) (bs := bk_X3_startsThatFit) (r := (x, M')) (C := fun t lv st M => none) ok_X3_startsThatFit fs_X3_startsThatFit_47_1 (fun t lv st M h => by
    cases h) 8 5 (am_wr [0, 0, 0, 1, 0] [v3]) [] M h
noncomputable def XB_X3_startsThatFit_47_1_e (c1 : Int → Int → Int → am_M → am_Rs) (v2 : Int) (M : am_M) : am_Rs :=
  c1 v2 0 0 M
set_option maxRecDepth 100000 in
theorem rs_X3_startsThatFit_47_1_e {x : Int} {M' : am_M} {c1 : Int → Int → Int → am_M → am_Rs} (h1 : ∀ w2 w3 w4 M, c1 w2 w3 w4 M = some (x, M') → am_R none 46 bk_X3_startsThatFit 1 (am_wr [50, 4, 1, 1, 1] [w2, w3, w4]) [] SH M (am_rv (am_rk 46) x) SH M') (v2 : Int) (M : am_M) (h : XB_X3_startsThatFit_47_1_e c1 v2 M = some (x, M')) : am_R none 46 bk_X3_startsThatFit 0 (am_ent 5 [.inr (.inr (some 47)), .inr (.inr (some 1)), .inl v2]) [] SH M (am_rv (am_rk 46) x) SH M' :=
  vRegion (sc := none) (sh := SH) (F := F_X3_startsThatFit_47_1) (k := 46) (bs := bk_X3_startsThatFit) (r := (x, M')) (C := fun t lv st M => if t = 1 then vCt [50, 4, 1, 1, 1] (un3 c1) lv st M else none) ok_X3_startsThatFit fs_X3_startsThatFit_47_1 (fun t lv st M h => by
    split at h
    · rename_i e; subst e; exact vCt_s (un3_s h1) h
    cases h) 8 0 (am_ent 5 [.inr (.inr (some 47)), .inr (.inr (some 1)), .inl v2]) [] M h
noncomputable def XL_X3_startsThatFit_47_1_1 (k5 : Int → am_M → am_Rs) : Nat → Int → Int → Int → am_M → am_Rs
  | 0, _, _, _, _ => none
  | n + 1, v2, v3, v4, M => XB_X3_startsThatFit_47_1_1 (XL_X3_startsThatFit_47_1_1 k5 n) k5 v2 v3 v4 M
theorem ls_X3_startsThatFit_47_1_1 {x : Int} {M' : am_M} {k5 : Int → am_M → am_Rs} (hk5 : ∀ w3 M, k5 w3 M = some (x, M') → am_R none 46 bk_X3_startsThatFit 5 (am_wr [0, 0, 0, 1, 0] [w3]) [] SH M (am_rv (am_rk 46) x) SH M') : ∀ (n : Nat) (v2 v3 v4 : Int) (M : am_M), XL_X3_startsThatFit_47_1_1 k5 n v2 v3 v4 M = some (x, M') → am_R none 46 bk_X3_startsThatFit 1 (am_wr [50, 4, 1, 1, 1] [v2, v3, v4]) [] SH M (am_rv (am_rk 46) x) SH M'
  | 0, v2, v3, v4, M, h => by cases h
  | n + 1, v2, v3, v4, M, h => rs_X3_startsThatFit_47_1_1 (ls_X3_startsThatFit_47_1_1 hk5 n) hk5 v2 v3 v4 M h
noncomputable def X_X3_startsThatFit_47_1 (v2 : Int) (M : am_M) : am_Rs := XB_X3_startsThatFit_47_1_e (XL_X3_startsThatFit_47_1_1 (XB_X3_startsThatFit_47_1_5) 1000) v2 M
theorem dc_X3_startsThatFit_47_1 (v2 : Int) (M M' : am_M) (x : Int) (h : X_X3_startsThatFit_47_1 v2 M = some (x, M')) : am_Calls 46 [.inr (.inr (some 47)), .inr (.inr (some 1)), .inl v2] SH M (am_rv (am_rk 46) x) SH M' :=
  am_enter pn_X3_startsThatFit ml_X3_startsThatFit rfl (Nat.le_of_ble_eq_true rfl) ⟨Nat.le_refl _, Nat.le_refl _⟩ (rs_X3_startsThatFit_47_1_e (ls_X3_startsThatFit_47_1_1 (rs_X3_startsThatFit_47_1_5) 1000) v2 M h)
noncomputable def F_X8_books_0 : Nat → List am_V → am_M → am_Rs := fun k as M => if k = 45 then (match as with
  | [.inr (.inr (some 47)), .inr (.inr (some 1)), .inl a2] => X_X3_areBooks_47_1 a2 M
  | _ => none) else if k = 46 then (match as with
  | [.inr (.inr (some 47)), .inr (.inr (some 1)), .inl a2] => X_X3_startsThatFit_47_1 a2 M
  | _ => none) else if k = 81 then (match as with
  | [.inr (.inr (some 1)), .inl a1] => X_X6_isNumber_1 a1 M
  | _ => none) else if k = 82 then (match as with
  | [.inr (.inr (some 1)), .inl a1] => X_X6_isThere_1 a1 M
  | _ => none) else if k = 83 then (match as with
  | [.inr (.inr (some 1)), .inl a1] => X_X6_sizeOf_1 a1 M
  | _ => none) else if k = 154 then (match as with
  | [.inr (.inr (some 0)), .inl a1] => X_X8_find_0 a1 M
  | _ => none) else if k = 158 then (match as with
  | [.inr (.inr (some 0))] => X_X8_hasNoLand_0 M
  | _ => none) else none
theorem fs_X8_books_0 : am_FS SH F_X8_books_0 := by
  intro k as M x M' h
  unfold F_X8_books_0 at h
  split at h
  · rename_i hk; subst hk
    split at h
    · exact dc_X3_areBooks_47_1 _ _ _ _ h
    · cases h
  split at h
  · rename_i hk; subst hk
    split at h
    · exact dc_X3_startsThatFit_47_1 _ _ _ _ h
    · cases h
  split at h
  · rename_i hk; subst hk
    split at h
    · exact dc_X6_isNumber_1 _ _ _ _ h
    · cases h
  split at h
  · rename_i hk; subst hk
    split at h
    · exact dc_X6_isThere_1 _ _ _ _ h
    · cases h
  split at h
  · rename_i hk; subst hk
    split at h
    · exact dc_X6_sizeOf_1 _ _ _ _ h
    · cases h
  split at h
  · rename_i hk; subst hk
    split at h
    · exact dc_X8_find_0 _ _ _ _ h
    · cases h
  split at h
  · rename_i hk; subst hk
    split at h
    · exact dc_X8_hasNoLand_0 _ _ _ h
    · cases h
  cases h
noncomputable def X_X8_books_0 (v1 : Int) (M : am_M) : am_Rs :=
  (X_X6_isNumber_1 v1 M).bind fun z1 =>
  if wI z1.1 = 0 then
   some ((-1), z1.2)
  else (X_X8_hasNoLand_0 z1.2).bind fun z2 =>
  if wI z2.1 = 0 then
   (X_X6_isThere_1 v1 z2.2).bind fun z3 =>
   if wI z3.1 = 0 then
    (X_X8_find_0 1 z3.2).bind fun z4 =>
    some (z4.1, z4.2)
   else (X_X6_sizeOf_1 v1 z3.2).bind fun z4 =>
   if wI ((wI z4.1).tmod 3) = 0 then
    (X_X3_areBooks_47_1 v1 z4.2).bind fun z5 =>
    if wI z5.1 = 0 then
     (X_X8_find_0 3 z5.2).bind fun z6 =>
     some (z6.1, z6.2)
    else (X_X3_startsThatFit_47_1 v1 z5.2).bind fun z6 =>
    some (z6.1, z6.2)
   else (X_X8_find_0 5 z4.2).bind fun z5 =>
   some (z5.1, z5.2)
  else some ((-4), z2.2)
set_option maxRecDepth 100000 in
theorem dc_X8_books_0 (v1 : Int) (M M' : am_M) (x : Int) (h : X_X8_books_0 v1 M = some (x, M')) : am_Calls 144 [.inr (.inr (some 0)), .inl v1] SH M (am_rv (am_rk 144) x) SH M' :=
  vCall (F := F_X8_books_0) (C := fun _ _ _ _ => none) (fu := 13) ok_X8_books pn_X8_books ml_X8_books rfl (Nat.le_of_ble_eq_true rfl) fs_X8_books_0 (fun _ _ _ _ h => by cases h) h
noncomputable def X_X2_takeFrom_48_11 (M : am_M) : am_Rs :=
  some (0, (am_cpy (am_cpy (am_up M 48 0 (M 11 0)) 12 49 0 0 12) 13 50 0 0 12))
set_option maxRecDepth 100000 in
theorem dc_X2_takeFrom_48_11 (M M' : am_M) (x : Int) (h : X_X2_takeFrom_48_11 M = some (x, M')) : am_Calls 31 [.inr (.inr (some 48)), .inr (.inr (some 11))] SH M (am_rv (am_rk 31) x) SH M' :=
  vCall (F := F_none) (C := fun _ _ _ _ => none) (fu := 3) ok_X2_takeFrom pn_X2_takeFrom ml_X2_takeFrom rfl (Nat.le_of_ble_eq_true rfl) fs_none (fun _ _ _ _ h => by cases h) h
noncomputable def X_X2_has_48 (v1 : Int) (M : am_M) : am_Rs :=
  if wI v1 < 0 then
   some (0, M)
  else if wI v1 < wI (M 48 0) then
   some (1, M)
  else some (0, M)
set_option maxRecDepth 100000 in
theorem dc_X2_has_48 (v1 : Int) (M M' : am_M) (x : Int) (h : X_X2_has_48 v1 M = some (x, M')) : am_Calls 33 [.inr (.inr (some 48)), .inl v1] SH M (am_rv (am_rk 33) x) SH M' :=
  vCall (F := F_none) (C := fun _ _ _ _ => none) (fu := 7) ok_X2_has pn_X2_has ml_X2_has rfl (Nat.le_of_ble_eq_true rfl) fs_none (fun _ _ _ _ h => by cases h) h
noncomputable def F_X2_setKind_48 : Nat → List am_V → am_M → am_Rs := fun k as M => if k = 33 then (match as with
  | [.inr (.inr (some 48)), .inl a1] => X_X2_has_48 a1 M
  | _ => none) else none
theorem fs_X2_setKind_48 : am_FS SH F_X2_setKind_48 := by
  intro k as M x M' h
  unfold F_X2_setKind_48 at h
  split at h
  · rename_i hk; subst hk
    split at h
    · exact dc_X2_has_48 _ _ _ _ h
    · cases h
  cases h
noncomputable def X_X2_setKind_48 (v1 v2 : Int) (M : am_M) : am_Rs :=
  (X_X2_has_48 v1 M).bind fun z1 =>
  if wI z1.1 = 0 then
   some (0, z1.2)
  else if 0 ≤ wI v1 ∧ wI v1 < 12 then
  some (0, (am_up z1.2 49 (wI v1).toNat v2))
  else none
set_option maxRecDepth 100000 in
theorem dc_X2_setKind_48 (v1 v2 : Int) (M M' : am_M) (x : Int) (h : X_X2_setKind_48 v1 v2 M = some (x, M')) : am_Calls 32 [.inr (.inr (some 48)), .inl v1, .inl v2] SH M (am_rv (am_rk 32) x) SH M' :=
  vCall (F := F_X2_setKind_48) (C := fun _ _ _ _ => none) (fu := 5) ok_X2_setKind pn_X2_setKind ml_X2_setKind rfl (Nat.le_of_ble_eq_true rfl) fs_X2_setKind_48 (fun _ _ _ _ h => by cases h) h
noncomputable def X_X2_rudeness_48 (v1 v2 v3 : Int) (M : am_M) : am_Rs :=
  if wI v2 = 0 then
   some (0, M)
  else if wI v2 < 0 then
   if wI (v1 - 1) < 0 then
    some ((-1), M)
   else if wI (v1 - 1) < wI (M 48 0) then
    if 0 ≤ wI (v1 - 1) ∧ wI (v1 - 1) < 12 then
    if wI (M 49 (wI (v1 - 1)).toNat) = 3 then
      if wI ((wI v3).tmod 2) = 0 then
       if wI (M 49 (wI (v1 - 1)).toNat) = 2 then
        some (2, M)
       else if wI (M 49 (wI (v1 - 1)).toNat) = 5 then
        some (2, M)
       else some (1, M)
      else some ((-1), M)
     else if wI (M 49 (wI (v1 - 1)).toNat) = 2 then
      some (2, M)
     else if wI (M 49 (wI (v1 - 1)).toNat) = 5 then
      some (2, M)
     else some (1, M)
    else none
   else some ((-1), M)
  else if wI v1 < 0 then
   some ((-1), M)
  else if wI v1 < wI (M 48 0) then
   if 0 ≤ wI v1 ∧ wI v1 < 12 then
   if wI (M 49 (wI v1).toNat) = 3 then
     if wI ((wI v3).tmod 2) = 0 then
      if wI (M 49 (wI v1).toNat) = 2 then
       some (2, M)
      else if wI (M 49 (wI v1).toNat) = 5 then
       some (2, M)
      else some (1, M)
     else some ((-1), M)
    else if wI (M 49 (wI v1).toNat) = 2 then
     some (2, M)
    else if wI (M 49 (wI v1).toNat) = 5 then
     some (2, M)
    else some (1, M)
   else none
  else some ((-1), M)
set_option maxRecDepth 100000 in
theorem dc_X2_rudeness_48 (v1 v2 v3 : Int) (M M' : am_M) (x : Int) (h : X_X2_rudeness_48 v1 v2 v3 M = some (x, M')) : am_Calls 41 [.inr (.inr (some 48)), .inl v1, .inl v2, .inl v3] SH M (am_rv (am_rk 41) x) SH M' :=
  vCall (F := F_none) (C := fun _ _ _ _ => none) (fu := 18) ok_X2_rudeness pn_X2_rudeness ml_X2_rudeness rfl (Nat.le_of_ble_eq_true rfl) fs_none (fun _ _ _ _ h => by cases h) h
noncomputable def F_X2_borderAfter_48 : Nat → List am_V → am_M → am_Rs := fun k as M => if k = 41 then (match as with
  | [.inr (.inr (some 48)), .inl a1, .inl a2, .inl a3] => X_X2_rudeness_48 a1 a2 a3 M
  | _ => none) else if k = 272 then (match as with
  | [.inl a0, .inl a1] => X_J6_compare_7cf53 a0 a1 M
  | _ => none) else none
theorem fs_X2_borderAfter_48 : am_FS SH F_X2_borderAfter_48 := by
  intro k as M x M' h
  unfold F_X2_borderAfter_48 at h
  split at h
  · rename_i hk; subst hk
    split at h
    · exact dc_X2_rudeness_48 _ _ _ _ _ _ h
    · cases h
  split at h
  · rename_i hk; subst hk
    split at h
    · exact dc_J6_compare_7cf53 _ _ _ _ _ h
    · cases h
  cases h
noncomputable def X_X2_borderAfter_48 (v1 v2 v3 v4 : Int) (M : am_M) : am_Rs :=
  (X_J6_compare_7cf53 v4 v3 M).bind fun z1 =>
  (X_X2_rudeness_48 v1 z1.1 v2 z1.2).bind fun z2 =>
  if wI z2.1 = (-1) then
   some (v1, z2.2)
  else if wI (if 0 ≤ wI (v3 - v4) then v3 - v4 else 0 - (v3 - v4)) < wI z2.1 then
   some (v1, z2.2)
  else some (v1 + z1.1, z2.2)
set_option maxRecDepth 100000 in
theorem dc_X2_borderAfter_48 (v1 v2 v3 v4 : Int) (M M' : am_M) (x : Int) (h : X_X2_borderAfter_48 v1 v2 v3 v4 M = some (x, M')) : am_Calls 42 [.inr (.inr (some 48)), .inl v1, .inl v2, .inl v3, .inl v4] SH M (am_rv (am_rk 42) x) SH M' :=
  vCall (F := F_X2_borderAfter_48) (C := fun _ _ _ _ => none) (fu := 10) ok_X2_borderAfter pn_X2_borderAfter ml_X2_borderAfter rfl (Nat.le_of_ble_eq_true rfl) fs_X2_borderAfter_48 (fun _ _ _ _ h => by cases h) h
noncomputable def F_X1_retrace_14_48_51 : Nat → List am_V → am_M → am_Rs := fun k as M => if k = 42 then (match as with
  | [.inr (.inr (some 48)), .inl a1, .inl a2, .inl a3, .inl a4] => X_X2_borderAfter_48 a1 a2 a3 a4 M
  | _ => none) else none
theorem fs_X1_retrace_14_48_51 : am_FS SH F_X1_retrace_14_48_51 := by
  intro k as M x M' h
  unfold F_X1_retrace_14_48_51 at h
  split at h
  · rename_i hk; subst hk
    split at h
    · exact dc_X2_borderAfter_48 _ _ _ _ _ _ _ h
    · cases h
  cases h
noncomputable def XB_X1_retrace_14_48_51_3 (c3 : Int → am_M → am_Rs) (c6 : am_M → am_Rs) (v4 : Int) (M : am_M) : am_Rs :=
  if wI v4 < wI (M 14 0) then
   if wI v4 < 40 then
    if 0 ≤ wI v4 ∧ wI v4 < 41 then
    if 0 ≤ wI v4 ∧ wI v4 < 40 then
     if 0 ≤ wI v4 ∧ wI v4 < 40 then
      (X_X2_borderAfter_48 (M 51 (wI v4).toNat) v4 (M 15 (wI v4).toNat) (M 16 (wI v4).toNat) M).bind fun z1 =>
       if 0 ≤ wI (v4 + 1) ∧ wI (v4 + 1) < 41 then
       c3 (v4 + 1) (am_up z1.2 51 (wI (v4 + 1)).toNat z1.1)
       else none
      else none
     else none
    else none
   else c6 M
  else c6 M
set_option maxRecDepth 100000 in
theorem rs_X1_retrace_14_48_51_3 {x : Int} {M' : am_M} {c3 : Int → am_M → am_Rs} {c6 : am_M → am_Rs} (h3 : ∀ w4 M, c3 w4 M = some (x, M') → am_R none 26 bk_X1_retrace 3 (am_wr [17, 51, 0, 54, 1] [w4]) [] SH M (am_rv (am_rk 26) x) SH M') (h6 : ∀ M, c6 M = some (x, M') → am_R none 26 bk_X1_retrace 6 (am_wr [0, 0, 0, 0, 0] []) [] SH M (am_rv (am_rk 26) x) SH M') (v4 : Int) (M : am_M) (h : XB_X1_retrace_14_48_51_3 c3 c6 v4 M = some (x, M')) : am_R none 26 bk_X1_retrace 3 (am_wr [17, 51, 0, 54, 1] [v4]) [] SH M (am_rv (am_rk 26) x) SH M' :=
  vRegion (sc := none) (sh := SH) (F := F_X1_retrace_14_48_51) (k := 26) (bs := bk_X1_retrace) (r := (x, M')) (C := fun t lv st M => if t = 3 then vCt [17, 51, 0, 54, 1] (un1 c3) lv st M else if t = 6 then vCt [0, 0, 0, 0, 0] (un0 c6) lv st M else none) ok_X1_retrace fs_X1_retrace_14_48_51 (fun t lv st M h => by
    split at h
    · rename_i e; subst e; exact vCt_s (un1_s h3) h
    split at h
    · rename_i e; subst e; exact vCt_s (un0_s h6) h
    cases h) 9 3 (am_wr [17, 51, 0, 54, 1] [v4]) [] M h
noncomputable def XB_X1_retrace_14_48_51_6 (M : am_M) : am_Rs :=
  some (0, M)
set_option maxRecDepth 100000 in
theorem rs_X1_retrace_14_48_51_6 {x : Int} {M' : am_M} (M : am_M) (h : XB_X1_retrace_14_48_51_6 M = some (x, M')) : am_R none 26 bk_X1_retrace 6 (am_wr [0, 0, 0, 0, 0] []) [] SH M (am_rv (am_rk 26) x) SH M' :=
  vRegion (sc := none) (sh := SH) (F := F_X1_retrace_14_48_51) (k := 26) (bs := bk_X1_retrace) (r := (x, M')) (C := fun t lv st M => none) ok_X1_retrace fs_X1_retrace_14_48_51 (fun t lv st M h => by
    cases h) 9 6 (am_wr [0, 0, 0, 0, 0] []) [] M h
noncomputable def XB_X1_retrace_14_48_51_e (c3 : Int → am_M → am_Rs) (v2 : Int) (M : am_M) : am_Rs :=
  c3 0 (am_up M 51 0 v2)
set_option maxRecDepth 100000 in
theorem rs_X1_retrace_14_48_51_e {x : Int} {M' : am_M} {c3 : Int → am_M → am_Rs} (h3 : ∀ w4 M, c3 w4 M = some (x, M') → am_R none 26 bk_X1_retrace 3 (am_wr [17, 51, 0, 54, 1] [w4]) [] SH M (am_rv (am_rk 26) x) SH M') (v2 : Int) (M : am_M) (h : XB_X1_retrace_14_48_51_e c3 v2 M = some (x, M')) : am_R none 26 bk_X1_retrace 0 (am_ent 5 [.inr (.inr (some 14)), .inr (.inr (some 48)), .inl v2, .inr (.inr (some 51))]) [] SH M (am_rv (am_rk 26) x) SH M' :=
  vRegion (sc := none) (sh := SH) (F := F_X1_retrace_14_48_51) (k := 26) (bs := bk_X1_retrace) (r := (x, M')) (C := fun t lv st M => if t = 3 then vCt [17, 51, 0, 54, 1] (un1 c3) lv st M else none) ok_X1_retrace fs_X1_retrace_14_48_51 (fun t lv st M h => by
    split at h
    · rename_i e; subst e; exact vCt_s (un1_s h3) h
    cases h) 9 0 (am_ent 5 [.inr (.inr (some 14)), .inr (.inr (some 48)), .inl v2, .inr (.inr (some 51))]) [] M h
noncomputable def XL_X1_retrace_14_48_51_3 (k6 : am_M → am_Rs) : Nat → Int → am_M → am_Rs
  | 0, _, _ => none
  | n + 1, v4, M => XB_X1_retrace_14_48_51_3 (XL_X1_retrace_14_48_51_3 k6 n) k6 v4 M
theorem ls_X1_retrace_14_48_51_3 {x : Int} {M' : am_M} {k6 : am_M → am_Rs} (hk6 : ∀ M, k6 M = some (x, M') → am_R none 26 bk_X1_retrace 6 (am_wr [0, 0, 0, 0, 0] []) [] SH M (am_rv (am_rk 26) x) SH M') : ∀ (n : Nat) (v4 : Int) (M : am_M), XL_X1_retrace_14_48_51_3 k6 n v4 M = some (x, M') → am_R none 26 bk_X1_retrace 3 (am_wr [17, 51, 0, 54, 1] [v4]) [] SH M (am_rv (am_rk 26) x) SH M'
  | 0, v4, M, h => by cases h
  | n + 1, v4, M, h => rs_X1_retrace_14_48_51_3 (ls_X1_retrace_14_48_51_3 hk6 n) hk6 v4 M h
noncomputable def X_X1_retrace_14_48_51 (v2 : Int) (M : am_M) : am_Rs := XB_X1_retrace_14_48_51_e (XL_X1_retrace_14_48_51_3 (XB_X1_retrace_14_48_51_6) 1000) v2 M
theorem dc_X1_retrace_14_48_51 (v2 : Int) (M M' : am_M) (x : Int) (h : X_X1_retrace_14_48_51 v2 M = some (x, M')) : am_Calls 26 [.inr (.inr (some 14)), .inr (.inr (some 48)), .inl v2, .inr (.inr (some 51))] SH M (am_rv (am_rk 26) x) SH M' :=
  am_enter pn_X1_retrace ml_X1_retrace rfl (Nat.le_of_ble_eq_true rfl) ⟨Nat.le_refl _, Nat.le_refl _⟩ (rs_X1_retrace_14_48_51_e (ls_X1_retrace_14_48_51_3 (rs_X1_retrace_14_48_51_6) 1000) v2 M h)
noncomputable def F_X3_kindsThatFit_47 : Nat → List am_V → am_M → am_Rs := fun k as M => if k = 21 then (match as with
  | [.inr (.inr (some 14)), .inl a1] => X_X1_borderAhead_14 a1 M
  | _ => none) else if k = 26 then (match as with
  | [.inr (.inr (some 14)), .inr (.inr (some 48)), .inl a2, .inr (.inr (some 51))] => X_X1_retrace_14_48_51 a2 M
  | _ => none) else if k = 31 then (match as with
  | [.inr (.inr (some 48)), .inr (.inr (some 11))] => X_X2_takeFrom_48_11 M
  | _ => none) else if k = 32 then (match as with
  | [.inr (.inr (some 48)), .inl a1, .inl a2] => X_X2_setKind_48 a1 a2 M
  | _ => none) else if k = 48 then (match as with
  | [.inr (.inr (some 47)), .inl a1] => X_X3_trailAt_47 a1 M
  | _ => none) else none
theorem fs_X3_kindsThatFit_47 : am_FS SH F_X3_kindsThatFit_47 := by
  intro k as M x M' h
  unfold F_X3_kindsThatFit_47 at h
  split at h
  · rename_i hk; subst hk
    split at h
    · exact dc_X1_borderAhead_14 _ _ _ _ h
    · cases h
  split at h
  · rename_i hk; subst hk
    split at h
    · exact dc_X1_retrace_14_48_51 _ _ _ _ h
    · cases h
  split at h
  · rename_i hk; subst hk
    split at h
    · exact dc_X2_takeFrom_48_11 _ _ _ h
    · cases h
  split at h
  · rename_i hk; subst hk
    split at h
    · exact dc_X2_setKind_48 _ _ _ _ _ h
    · cases h
  split at h
  · rename_i hk; subst hk
    split at h
    · exact dc_X3_trailAt_47 _ _ _ _ h
    · cases h
  cases h
noncomputable def XB_X3_kindsThatFit_47_1 (c1 : Int → Int → Int → am_M → am_Rs) (c5 : Int → am_M → am_Rs) (v1 v2 v3 : Int) (M : am_M) : am_Rs :=
  if wI v3 < 6 then
   (X_X2_setKind_48 v1 v3 M).bind fun z1 =>
   (X_X1_borderAhead_14 0 z1.2).bind fun z2 =>
   (X_X1_retrace_14_48_51 z2.1 z2.2).bind fun z3 =>
   (X_X3_trailAt_47 (z3.2 14 0) z3.2).bind fun z4 =>
   if wI z4.1 = wI (z4.2 14 1) then
    c1 v1 (b_or_ v2 (b_shl_ 1 v3)) (v3 + 1) z4.2
   else c1 v1 v2 (v3 + 1) z4.2
  else c5 v2 M
set_option maxRecDepth 100000 in
theorem rs_X3_kindsThatFit_47_1 {x : Int} {M' : am_M} {c1 : Int → Int → Int → am_M → am_Rs} {c5 : Int → am_M → am_Rs} (h1 : ∀ w1 w2 w3 M, c1 w1 w2 w3 M = some (x, M') → am_R none 49 bk_X3_kindsThatFit 1 (am_wr [50, 1, 1, 1] [w1, w2, w3]) [] SH M (am_rv (am_rk 49) x) SH M') (h5 : ∀ w2 M, c5 w2 M = some (x, M') → am_R none 49 bk_X3_kindsThatFit 5 (am_wr [0, 0, 1, 0] [w2]) [] SH M (am_rv (am_rk 49) x) SH M') (v1 v2 v3 : Int) (M : am_M) (h : XB_X3_kindsThatFit_47_1 c1 c5 v1 v2 v3 M = some (x, M')) : am_R none 49 bk_X3_kindsThatFit 1 (am_wr [50, 1, 1, 1] [v1, v2, v3]) [] SH M (am_rv (am_rk 49) x) SH M' :=
  vRegion (sc := none) (sh := SH) (F := F_X3_kindsThatFit_47) (k := 49) (bs := bk_X3_kindsThatFit) (r := (x, M')) (C := fun t lv st M => if t = 1 then vCt [50, 1, 1, 1] (un3 c1) lv st M else if t = 5 then vCt [0, 0, 1, 0] (un1 c5) lv st M else none) ok_X3_kindsThatFit fs_X3_kindsThatFit_47 (fun t lv st M h => by
    split at h
    · rename_i e; subst e; exact vCt_s (un3_s h1) h
    split at h
    · rename_i e; subst e; exact vCt_s (un1_s h5) h
    cases h) 8 1 (am_wr [50, 1, 1, 1] [v1, v2, v3]) [] M h
noncomputable def XB_X3_kindsThatFit_47_5 (v2 : Int) (M : am_M) : am_Rs :=
  some (v2, M)
set_option maxRecDepth 100000 in
theorem rs_X3_kindsThatFit_47_5 {x : Int} {M' : am_M} (v2 : Int) (M : am_M) (h : XB_X3_kindsThatFit_47_5 v2 M = some (x, M')) : am_R none 49 bk_X3_kindsThatFit 5 (am_wr [0, 0, 1, 0] [v2]) [] SH M (am_rv (am_rk 49) x) SH M' :=
  vRegion (sc := none) (sh := SH) (F := F_X3_kindsThatFit_47) (k := 49) (bs := bk_X3_kindsThatFit) (r := (x, M')) (C := fun t lv st M => none) ok_X3_kindsThatFit fs_X3_kindsThatFit_47 (fun t lv st M h => by
    cases h) 8 5 (am_wr [0, 0, 1, 0] [v2]) [] M h
noncomputable def XB_X3_kindsThatFit_47_e (c1 : Int → Int → Int → am_M → am_Rs) (v1 : Int) (M : am_M) : am_Rs :=
  (X_X2_takeFrom_48_11 M).bind fun z1 =>
  c1 v1 0 0 z1.2
set_option maxRecDepth 100000 in
theorem rs_X3_kindsThatFit_47_e {x : Int} {M' : am_M} {c1 : Int → Int → Int → am_M → am_Rs} (h1 : ∀ w1 w2 w3 M, c1 w1 w2 w3 M = some (x, M') → am_R none 49 bk_X3_kindsThatFit 1 (am_wr [50, 1, 1, 1] [w1, w2, w3]) [] SH M (am_rv (am_rk 49) x) SH M') (v1 : Int) (M : am_M) (h : XB_X3_kindsThatFit_47_e c1 v1 M = some (x, M')) : am_R none 49 bk_X3_kindsThatFit 0 (am_ent 4 [.inr (.inr (some 47)), .inl v1]) [] SH M (am_rv (am_rk 49) x) SH M' :=
  vRegion (sc := none) (sh := SH) (F := F_X3_kindsThatFit_47) (k := 49) (bs := bk_X3_kindsThatFit) (r := (x, M')) (C := fun t lv st M => if t = 1 then vCt [50, 1, 1, 1] (un3 c1) lv st M else none) ok_X3_kindsThatFit fs_X3_kindsThatFit_47 (fun t lv st M h => by
    split at h
    · rename_i e; subst e; exact vCt_s (un3_s h1) h
    cases h) 8 0 (am_ent 4 [.inr (.inr (some 47)), .inl v1]) [] M h
noncomputable def XL_X3_kindsThatFit_47_1 (k5 : Int → am_M → am_Rs) : Nat → Int → Int → Int → am_M → am_Rs
  | 0, _, _, _, _ => none
  | n + 1, v1, v2, v3, M => XB_X3_kindsThatFit_47_1 (XL_X3_kindsThatFit_47_1 k5 n) k5 v1 v2 v3 M
theorem ls_X3_kindsThatFit_47_1 {x : Int} {M' : am_M} {k5 : Int → am_M → am_Rs} (hk5 : ∀ w2 M, k5 w2 M = some (x, M') → am_R none 49 bk_X3_kindsThatFit 5 (am_wr [0, 0, 1, 0] [w2]) [] SH M (am_rv (am_rk 49) x) SH M') : ∀ (n : Nat) (v1 v2 v3 : Int) (M : am_M), XL_X3_kindsThatFit_47_1 k5 n v1 v2 v3 M = some (x, M') → am_R none 49 bk_X3_kindsThatFit 1 (am_wr [50, 1, 1, 1] [v1, v2, v3]) [] SH M (am_rv (am_rk 49) x) SH M'
  | 0, v1, v2, v3, M, h => by cases h
  | n + 1, v1, v2, v3, M, h => rs_X3_kindsThatFit_47_1 (ls_X3_kindsThatFit_47_1 hk5 n) hk5 v1 v2 v3 M h
noncomputable def X_X3_kindsThatFit_47 (v1 : Int) (M : am_M) : am_Rs := XB_X3_kindsThatFit_47_e (XL_X3_kindsThatFit_47_1 (XB_X3_kindsThatFit_47_5) 1000) v1 M
theorem dc_X3_kindsThatFit_47 (v1 : Int) (M M' : am_M) (x : Int) (h : X_X3_kindsThatFit_47 v1 M = some (x, M')) : am_Calls 49 [.inr (.inr (some 47)), .inl v1] SH M (am_rv (am_rk 49) x) SH M' :=
  am_enter pn_X3_kindsThatFit ml_X3_kindsThatFit rfl (Nat.le_of_ble_eq_true rfl) ⟨Nat.le_refl _, Nat.le_refl _⟩ (rs_X3_kindsThatFit_47_e (ls_X3_kindsThatFit_47_1 (rs_X3_kindsThatFit_47_5) 1000) v1 M h)
noncomputable def F_X8_kinds_0 : Nat → List am_V → am_M → am_Rs := fun k as M => if k = 33 then (match as with
  | [.inr (.inr (some 11)), .inl a1] => X_X2_has_11 a1 M
  | _ => none) else if k = 49 then (match as with
  | [.inr (.inr (some 47)), .inl a1] => X_X3_kindsThatFit_47 a1 M
  | _ => none) else none
theorem fs_X8_kinds_0 : am_FS SH F_X8_kinds_0 := by
  intro k as M x M' h
  unfold F_X8_kinds_0 at h
  split at h
  · rename_i hk; subst hk
    split at h
    · exact dc_X2_has_11 _ _ _ _ h
    · cases h
  split at h
  · rename_i hk; subst hk
    split at h
    · exact dc_X3_kindsThatFit_47 _ _ _ _ h
    · cases h
  cases h
noncomputable def X_X8_kinds_0 (v1 : Int) (M : am_M) : am_Rs :=
  (X_X2_has_11 v1 M).bind fun z1 =>
  if wI z1.1 = 0 then
   some ((-1), z1.2)
  else (X_X3_kindsThatFit_47 v1 z1.2).bind fun z2 =>
  some (z2.1, z2.2)
set_option maxRecDepth 100000 in
theorem dc_X8_kinds_0 (v1 : Int) (M M' : am_M) (x : Int) (h : X_X8_kinds_0 v1 M = some (x, M')) : am_Calls 145 [.inr (.inr (some 0)), .inl v1] SH M (am_rv (am_rk 145) x) SH M' :=
  vCall (F := F_X8_kinds_0) (C := fun _ _ _ _ => none) (fu := 5) ok_X8_kinds pn_X8_kinds ml_X8_kinds rfl (Nat.le_of_ble_eq_true rfl) fs_X8_kinds_0 (fun _ _ _ _ h => by cases h) h
noncomputable def F_X8_lots_0 : Nat → List am_V → am_M → am_Rs := fun k as M => if k = 17 then (match as with
  | [.inr (.inr (some 14)), .inr (.inr (some 11)), .inl a2, .inl a3] => X_X1_pass_14_11 a2 a3 M
  | _ => none) else if k = 158 then (match as with
  | [.inr (.inr (some 0))] => X_X8_hasNoLand_0 M
  | _ => none) else none
theorem fs_X8_lots_0 : am_FS SH F_X8_lots_0 := by
  intro k as M x M' h
  unfold F_X8_lots_0 at h
  split at h
  · rename_i hk; subst hk
    split at h
    · exact dc_X1_pass_14_11 _ _ _ _ _ h
    · cases h
  split at h
  · rename_i hk; subst hk
    split at h
    · exact dc_X8_hasNoLand_0 _ _ _ h
    · cases h
  cases h
noncomputable def XB_X8_lots_0_10 (c10 : Int → Int → Int → am_M → am_Rs) (c12 : am_M → am_Rs) (v1 v3 v5 : Int) (M : am_M) : am_Rs :=
  if wI v5 < wI v1 then
   (X_X1_pass_14_11 ((wL ((wL (48271 * v3)).tmod 2147483647)).tmod 4) ((wL ((wL ((wL (48271 * v3)).tmod 2147483647)).tdiv 16)).tmod 4) M).bind fun z1 =>
   c10 v1 ((wL (48271 * v3)).tmod 2147483647) (v5 + 1) z1.2
  else c12 M
set_option maxRecDepth 100000 in
theorem rs_X8_lots_0_10 {x : Int} {M' : am_M} {c10 : Int → Int → Int → am_M → am_Rs} {c12 : am_M → am_Rs} (h10 : ∀ w1 w3 w5 M, c10 w1 w3 w5 M = some (x, M') → am_R none 146 bk_X8_lots 10 (am_wr [3, 1, 0, 2, 0, 1] [w1, w3, w5]) [] SH M (am_rv (am_rk 146) x) SH M') (h12 : ∀ M, c12 M = some (x, M') → am_R none 146 bk_X8_lots 12 (am_wr [3, 0, 0, 0, 0, 0] []) [] SH M (am_rv (am_rk 146) x) SH M') (v1 v3 v5 : Int) (M : am_M) (h : XB_X8_lots_0_10 c10 c12 v1 v3 v5 M = some (x, M')) : am_R none 146 bk_X8_lots 10 (am_wr [3, 1, 0, 2, 0, 1] [v1, v3, v5]) [] SH M (am_rv (am_rk 146) x) SH M' :=
  vRegion (sc := none) (sh := SH) (F := F_X8_lots_0) (k := 146) (bs := bk_X8_lots) (r := (x, M')) (C := fun t lv st M => if t = 10 then vCt [3, 1, 0, 2, 0, 1] (un3 c10) lv st M else if t = 12 then vCt [3, 0, 0, 0, 0, 0] (un0 c12) lv st M else none) ok_X8_lots fs_X8_lots_0 (fun t lv st M h => by
    split at h
    · rename_i e; subst e; exact vCt_s (un3_s h10) h
    split at h
    · rename_i e; subst e; exact vCt_s (un0_s h12) h
    cases h) 15 10 (am_wr [3, 1, 0, 2, 0, 1] [v1, v3, v5]) [] M h
noncomputable def XB_X8_lots_0_12 (M : am_M) : am_Rs :=
  some (M 14 1, M)
set_option maxRecDepth 100000 in
theorem rs_X8_lots_0_12 {x : Int} {M' : am_M} (M : am_M) (h : XB_X8_lots_0_12 M = some (x, M')) : am_R none 146 bk_X8_lots 12 (am_wr [3, 0, 0, 0, 0, 0] []) [] SH M (am_rv (am_rk 146) x) SH M' :=
  vRegion (sc := none) (sh := SH) (F := F_X8_lots_0) (k := 146) (bs := bk_X8_lots) (r := (x, M')) (C := fun t lv st M => none) ok_X8_lots fs_X8_lots_0 (fun t lv st M h => by
    cases h) 15 12 (am_wr [3, 0, 0, 0, 0, 0] []) [] M h
noncomputable def XB_X8_lots_0_e (c10 : Int → Int → Int → am_M → am_Rs) (v1 v2 : Int) (M : am_M) : am_Rs :=
  if wI v1 < 1 then
   some ((-1), M)
  else if 20 < wI v1 then
   some ((-1), M)
  else if wI v2 < 1 then
   some ((-1), M)
  else if wI (c_lcmp (wI v2) 2147483647) < 0 then
   (X_X8_hasNoLand_0 M).bind fun z1 =>
   if wI z1.1 = 0 then
    if 40 < wI ((z1.2 14 0) + v1) then
     some ((-2), z1.2)
    else c10 v1 (wI v2) 0 z1.2
   else some ((-4), z1.2)
  else some ((-1), M)
set_option maxRecDepth 100000 in
theorem rs_X8_lots_0_e {x : Int} {M' : am_M} {c10 : Int → Int → Int → am_M → am_Rs} (h10 : ∀ w1 w3 w5 M, c10 w1 w3 w5 M = some (x, M') → am_R none 146 bk_X8_lots 10 (am_wr [3, 1, 0, 2, 0, 1] [w1, w3, w5]) [] SH M (am_rv (am_rk 146) x) SH M') (v1 v2 : Int) (M : am_M) (h : XB_X8_lots_0_e c10 v1 v2 M = some (x, M')) : am_R none 146 bk_X8_lots 0 (am_ent 6 [.inr (.inr (some 0)), .inl v1, .inl v2]) [] SH M (am_rv (am_rk 146) x) SH M' :=
  vRegion (sc := none) (sh := SH) (F := F_X8_lots_0) (k := 146) (bs := bk_X8_lots) (r := (x, M')) (C := fun t lv st M => if t = 10 then vCt [3, 1, 0, 2, 0, 1] (un3 c10) lv st M else none) ok_X8_lots fs_X8_lots_0 (fun t lv st M h => by
    split at h
    · rename_i e; subst e; exact vCt_s (un3_s h10) h
    cases h) 15 0 (am_ent 6 [.inr (.inr (some 0)), .inl v1, .inl v2]) [] M h
noncomputable def XL_X8_lots_0_10 (k12 : am_M → am_Rs) : Nat → Int → Int → Int → am_M → am_Rs
  | 0, _, _, _, _ => none
  | n + 1, v1, v3, v5, M => XB_X8_lots_0_10 (XL_X8_lots_0_10 k12 n) k12 v1 v3 v5 M
theorem ls_X8_lots_0_10 {x : Int} {M' : am_M} {k12 : am_M → am_Rs} (hk12 : ∀ M, k12 M = some (x, M') → am_R none 146 bk_X8_lots 12 (am_wr [3, 0, 0, 0, 0, 0] []) [] SH M (am_rv (am_rk 146) x) SH M') : ∀ (n : Nat) (v1 v3 v5 : Int) (M : am_M), XL_X8_lots_0_10 k12 n v1 v3 v5 M = some (x, M') → am_R none 146 bk_X8_lots 10 (am_wr [3, 1, 0, 2, 0, 1] [v1, v3, v5]) [] SH M (am_rv (am_rk 146) x) SH M'
  | 0, v1, v3, v5, M, h => by cases h
  | n + 1, v1, v3, v5, M, h => rs_X8_lots_0_10 (ls_X8_lots_0_10 hk12 n) hk12 v1 v3 v5 M h
noncomputable def X_X8_lots_0 (v1 v2 : Int) (M : am_M) : am_Rs := XB_X8_lots_0_e (XL_X8_lots_0_10 (XB_X8_lots_0_12) 1000) v1 v2 M
theorem dc_X8_lots_0 (v1 v2 : Int) (M M' : am_M) (x : Int) (h : X_X8_lots_0 v1 v2 M = some (x, M')) : am_Calls 146 [.inr (.inr (some 0)), .inl v1, .inl v2] SH M (am_rv (am_rk 146) x) SH M' :=
  am_enter pn_X8_lots ml_X8_lots rfl (Nat.le_of_ble_eq_true rfl) ⟨Nat.le_refl _, Nat.le_refl _⟩ (rs_X8_lots_0_e (ls_X8_lots_0_10 (rs_X8_lots_0_12) 1000) v1 v2 M h)
noncomputable def X_X8_asked_0 (M : am_M) : am_Rs :=
  some (M 0 13, M)
set_option maxRecDepth 100000 in
theorem dc_X8_asked_0 (M M' : am_M) (x : Int) (h : X_X8_asked_0 M = some (x, M')) : am_Calls 147 [.inr (.inr (some 0))] SH M (am_rv (am_rk 147) x) SH M' :=
  vCall (F := F_none) (C := fun _ _ _ _ => none) (fu := 3) ok_X8_asked pn_X8_asked ml_X8_asked rfl (Nat.le_of_ble_eq_true rfl) fs_none (fun _ _ _ _ h => by cases h) h
noncomputable def X_X8_upper_0 (M : am_M) : am_Rs :=
  some (M 0 14, M)
set_option maxRecDepth 100000 in
theorem dc_X8_upper_0 (M M' : am_M) (x : Int) (h : X_X8_upper_0 M = some (x, M')) : am_Calls 148 [.inr (.inr (some 0))] SH M (am_rv (am_rk 148) x) SH M' :=
  vCall (F := F_none) (C := fun _ _ _ _ => none) (fu := 3) ok_X8_upper pn_X8_upper ml_X8_upper rfl (Nat.le_of_ble_eq_true rfl) fs_none (fun _ _ _ _ h => by cases h) h
noncomputable def X_X8_lower_0 (M : am_M) : am_Rs :=
  some (M 0 15, M)
set_option maxRecDepth 100000 in
theorem dc_X8_lower_0 (M M' : am_M) (x : Int) (h : X_X8_lower_0 M = some (x, M')) : am_Calls 149 [.inr (.inr (some 0))] SH M (am_rv (am_rk 149) x) SH M' :=
  vCall (F := F_none) (C := fun _ _ _ _ => none) (fu := 3) ok_X8_lower pn_X8_lower ml_X8_lower rfl (Nat.le_of_ble_eq_true rfl) fs_none (fun _ _ _ _ h => by cases h) h
noncomputable def XB_X8_keptLands_0_1 (c1 : Int → Int → am_M → am_Rs) (c5 : Int → am_M → am_Rs) (v1 v2 : Int) (M : am_M) : am_Rs :=
  if wI v2 < 3 then
   if 0 ≤ wI v2 ∧ wI v2 < 3 then
   if wI (M 35 (wI v2).toNat) = (-1) then
     c1 v1 (v2 + 1) M
    else c1 (v1 + 1) (v2 + 1) M
   else none
  else c5 v1 M
set_option maxRecDepth 100000 in
theorem rs_X8_keptLands_0_1 {x : Int} {M' : am_M} {c1 : Int → Int → am_M → am_Rs} {c5 : Int → am_M → am_Rs} (h1 : ∀ w1 w2 M, c1 w1 w2 M = some (x, M') → am_R none 166 bk_X8_keptLands 1 (am_wr [3, 1, 1] [w1, w2]) [] SH M (am_rv (am_rk 166) x) SH M') (h5 : ∀ w1 M, c5 w1 M = some (x, M') → am_R none 166 bk_X8_keptLands 5 (am_wr [0, 1, 0] [w1]) [] SH M (am_rv (am_rk 166) x) SH M') (v1 v2 : Int) (M : am_M) (h : XB_X8_keptLands_0_1 c1 c5 v1 v2 M = some (x, M')) : am_R none 166 bk_X8_keptLands 1 (am_wr [3, 1, 1] [v1, v2]) [] SH M (am_rv (am_rk 166) x) SH M' :=
  vRegion (sc := none) (sh := SH) (F := F_none) (k := 166) (bs := bk_X8_keptLands) (r := (x, M')) (C := fun t lv st M => if t = 1 then vCt [3, 1, 1] (un2 c1) lv st M else if t = 5 then vCt [0, 1, 0] (un1 c5) lv st M else none) ok_X8_keptLands fs_none (fun t lv st M h => by
    split at h
    · rename_i e; subst e; exact vCt_s (un2_s h1) h
    split at h
    · rename_i e; subst e; exact vCt_s (un1_s h5) h
    cases h) 8 1 (am_wr [3, 1, 1] [v1, v2]) [] M h
noncomputable def XB_X8_keptLands_0_5 (v1 : Int) (M : am_M) : am_Rs :=
  some (v1, M)
set_option maxRecDepth 100000 in
theorem rs_X8_keptLands_0_5 {x : Int} {M' : am_M} (v1 : Int) (M : am_M) (h : XB_X8_keptLands_0_5 v1 M = some (x, M')) : am_R none 166 bk_X8_keptLands 5 (am_wr [0, 1, 0] [v1]) [] SH M (am_rv (am_rk 166) x) SH M' :=
  vRegion (sc := none) (sh := SH) (F := F_none) (k := 166) (bs := bk_X8_keptLands) (r := (x, M')) (C := fun t lv st M => none) ok_X8_keptLands fs_none (fun t lv st M h => by
    cases h) 8 5 (am_wr [0, 1, 0] [v1]) [] M h
noncomputable def XB_X8_keptLands_0_e (c1 : Int → Int → am_M → am_Rs) (M : am_M) : am_Rs :=
  c1 0 0 M
set_option maxRecDepth 100000 in
theorem rs_X8_keptLands_0_e {x : Int} {M' : am_M} {c1 : Int → Int → am_M → am_Rs} (h1 : ∀ w1 w2 M, c1 w1 w2 M = some (x, M') → am_R none 166 bk_X8_keptLands 1 (am_wr [3, 1, 1] [w1, w2]) [] SH M (am_rv (am_rk 166) x) SH M') (M : am_M) (h : XB_X8_keptLands_0_e c1 M = some (x, M')) : am_R none 166 bk_X8_keptLands 0 (am_ent 3 [.inr (.inr (some 0))]) [] SH M (am_rv (am_rk 166) x) SH M' :=
  vRegion (sc := none) (sh := SH) (F := F_none) (k := 166) (bs := bk_X8_keptLands) (r := (x, M')) (C := fun t lv st M => if t = 1 then vCt [3, 1, 1] (un2 c1) lv st M else none) ok_X8_keptLands fs_none (fun t lv st M h => by
    split at h
    · rename_i e; subst e; exact vCt_s (un2_s h1) h
    cases h) 8 0 (am_ent 3 [.inr (.inr (some 0))]) [] M h
noncomputable def XL_X8_keptLands_0_1 (k5 : Int → am_M → am_Rs) : Nat → Int → Int → am_M → am_Rs
  | 0, _, _, _ => none
  | n + 1, v1, v2, M => XB_X8_keptLands_0_1 (XL_X8_keptLands_0_1 k5 n) k5 v1 v2 M
theorem ls_X8_keptLands_0_1 {x : Int} {M' : am_M} {k5 : Int → am_M → am_Rs} (hk5 : ∀ w1 M, k5 w1 M = some (x, M') → am_R none 166 bk_X8_keptLands 5 (am_wr [0, 1, 0] [w1]) [] SH M (am_rv (am_rk 166) x) SH M') : ∀ (n : Nat) (v1 v2 : Int) (M : am_M), XL_X8_keptLands_0_1 k5 n v1 v2 M = some (x, M') → am_R none 166 bk_X8_keptLands 1 (am_wr [3, 1, 1] [v1, v2]) [] SH M (am_rv (am_rk 166) x) SH M'
  | 0, v1, v2, M, h => by cases h
  | n + 1, v1, v2, M, h => rs_X8_keptLands_0_1 (ls_X8_keptLands_0_1 hk5 n) hk5 v1 v2 M h
noncomputable def X_X8_keptLands_0 (M : am_M) : am_Rs := XB_X8_keptLands_0_e (XL_X8_keptLands_0_1 (XB_X8_keptLands_0_5) 1000) M
theorem dc_X8_keptLands_0 (M M' : am_M) (x : Int) (h : X_X8_keptLands_0 M = some (x, M')) : am_Calls 166 [.inr (.inr (some 0))] SH M (am_rv (am_rk 166) x) SH M' :=
  am_enter pn_X8_keptLands ml_X8_keptLands rfl (Nat.le_of_ble_eq_true rfl) ⟨Nat.le_refl _, Nat.le_refl _⟩ (rs_X8_keptLands_0_e (ls_X8_keptLands_0_1 (rs_X8_keptLands_0_5) 1000) M h)
noncomputable def F_X6_howMany_4 : Nat → List am_V → am_M → am_Rs := fun k as M => if k = 82 then (match as with
  | [.inr (.inr (some 4)), .inl a1] => X_X6_isThere_4 a1 M
  | _ => none) else none
theorem fs_X6_howMany_4 : am_FS SH F_X6_howMany_4 := by
  intro k as M x M' h
  unfold F_X6_howMany_4 at h
  split at h
  · rename_i hk; subst hk
    split at h
    · exact dc_X6_isThere_4 _ _ _ _ h
    · cases h
  cases h
noncomputable def XB_X6_howMany_4_1 (c1 : Int → Int → am_M → am_Rs) (c5 : Int → am_M → am_Rs) (v1 v2 : Int) (M : am_M) : am_Rs :=
  if wI v2 < wI (M 4 0) then
   (X_X6_isThere_4 v2 M).bind fun z1 =>
   if wI z1.1 = 0 then
    c1 v1 (v2 + 1) z1.2
   else c1 (v1 + 1) (v2 + 1) z1.2
  else c5 v1 M
set_option maxRecDepth 100000 in
theorem rs_X6_howMany_4_1 {x : Int} {M' : am_M} {c1 : Int → Int → am_M → am_Rs} {c5 : Int → am_M → am_Rs} (h1 : ∀ w1 w2 M, c1 w1 w2 M = some (x, M') → am_R none 93 bk_X6_howMany 1 (am_wr [7, 1, 1] [w1, w2]) [] SH M (am_rv (am_rk 93) x) SH M') (h5 : ∀ w1 M, c5 w1 M = some (x, M') → am_R none 93 bk_X6_howMany 5 (am_wr [0, 1, 0] [w1]) [] SH M (am_rv (am_rk 93) x) SH M') (v1 v2 : Int) (M : am_M) (h : XB_X6_howMany_4_1 c1 c5 v1 v2 M = some (x, M')) : am_R none 93 bk_X6_howMany 1 (am_wr [7, 1, 1] [v1, v2]) [] SH M (am_rv (am_rk 93) x) SH M' :=
  vRegion (sc := none) (sh := SH) (F := F_X6_howMany_4) (k := 93) (bs := bk_X6_howMany) (r := (x, M')) (C := fun t lv st M => if t = 1 then vCt [7, 1, 1] (un2 c1) lv st M else if t = 5 then vCt [0, 1, 0] (un1 c5) lv st M else none) ok_X6_howMany fs_X6_howMany_4 (fun t lv st M h => by
    split at h
    · rename_i e; subst e; exact vCt_s (un2_s h1) h
    split at h
    · rename_i e; subst e; exact vCt_s (un1_s h5) h
    cases h) 8 1 (am_wr [7, 1, 1] [v1, v2]) [] M h
noncomputable def XB_X6_howMany_4_5 (v1 : Int) (M : am_M) : am_Rs :=
  some (v1, M)
set_option maxRecDepth 100000 in
theorem rs_X6_howMany_4_5 {x : Int} {M' : am_M} (v1 : Int) (M : am_M) (h : XB_X6_howMany_4_5 v1 M = some (x, M')) : am_R none 93 bk_X6_howMany 5 (am_wr [0, 1, 0] [v1]) [] SH M (am_rv (am_rk 93) x) SH M' :=
  vRegion (sc := none) (sh := SH) (F := F_X6_howMany_4) (k := 93) (bs := bk_X6_howMany) (r := (x, M')) (C := fun t lv st M => none) ok_X6_howMany fs_X6_howMany_4 (fun t lv st M h => by
    cases h) 8 5 (am_wr [0, 1, 0] [v1]) [] M h
noncomputable def XB_X6_howMany_4_e (c1 : Int → Int → am_M → am_Rs) (M : am_M) : am_Rs :=
  c1 0 0 M
set_option maxRecDepth 100000 in
theorem rs_X6_howMany_4_e {x : Int} {M' : am_M} {c1 : Int → Int → am_M → am_Rs} (h1 : ∀ w1 w2 M, c1 w1 w2 M = some (x, M') → am_R none 93 bk_X6_howMany 1 (am_wr [7, 1, 1] [w1, w2]) [] SH M (am_rv (am_rk 93) x) SH M') (M : am_M) (h : XB_X6_howMany_4_e c1 M = some (x, M')) : am_R none 93 bk_X6_howMany 0 (am_ent 3 [.inr (.inr (some 4))]) [] SH M (am_rv (am_rk 93) x) SH M' :=
  vRegion (sc := none) (sh := SH) (F := F_X6_howMany_4) (k := 93) (bs := bk_X6_howMany) (r := (x, M')) (C := fun t lv st M => if t = 1 then vCt [7, 1, 1] (un2 c1) lv st M else none) ok_X6_howMany fs_X6_howMany_4 (fun t lv st M h => by
    split at h
    · rename_i e; subst e; exact vCt_s (un2_s h1) h
    cases h) 8 0 (am_ent 3 [.inr (.inr (some 4))]) [] M h
noncomputable def XL_X6_howMany_4_1 (k5 : Int → am_M → am_Rs) : Nat → Int → Int → am_M → am_Rs
  | 0, _, _, _ => none
  | n + 1, v1, v2, M => XB_X6_howMany_4_1 (XL_X6_howMany_4_1 k5 n) k5 v1 v2 M
theorem ls_X6_howMany_4_1 {x : Int} {M' : am_M} {k5 : Int → am_M → am_Rs} (hk5 : ∀ w1 M, k5 w1 M = some (x, M') → am_R none 93 bk_X6_howMany 5 (am_wr [0, 1, 0] [w1]) [] SH M (am_rv (am_rk 93) x) SH M') : ∀ (n : Nat) (v1 v2 : Int) (M : am_M), XL_X6_howMany_4_1 k5 n v1 v2 M = some (x, M') → am_R none 93 bk_X6_howMany 1 (am_wr [7, 1, 1] [v1, v2]) [] SH M (am_rv (am_rk 93) x) SH M'
  | 0, v1, v2, M, h => by cases h
  | n + 1, v1, v2, M, h => rs_X6_howMany_4_1 (ls_X6_howMany_4_1 hk5 n) hk5 v1 v2 M h
noncomputable def X_X6_howMany_4 (M : am_M) : am_Rs := XB_X6_howMany_4_e (XL_X6_howMany_4_1 (XB_X6_howMany_4_5) 1000) M
theorem dc_X6_howMany_4 (M M' : am_M) (x : Int) (h : X_X6_howMany_4 M = some (x, M')) : am_Calls 93 [.inr (.inr (some 4))] SH M (am_rv (am_rk 93) x) SH M' :=
  am_enter pn_X6_howMany ml_X6_howMany rfl (Nat.le_of_ble_eq_true rfl) ⟨Nat.le_refl _, Nat.le_refl _⟩ (rs_X6_howMany_4_e (ls_X6_howMany_4_1 (rs_X6_howMany_4_5) 1000) M h)
noncomputable def F_X6_howMany_1 : Nat → List am_V → am_M → am_Rs := fun k as M => if k = 82 then (match as with
  | [.inr (.inr (some 1)), .inl a1] => X_X6_isThere_1 a1 M
  | _ => none) else none
theorem fs_X6_howMany_1 : am_FS SH F_X6_howMany_1 := by
  intro k as M x M' h
  unfold F_X6_howMany_1 at h
  split at h
  · rename_i hk; subst hk
    split at h
    · exact dc_X6_isThere_1 _ _ _ _ h
    · cases h
  cases h
noncomputable def XB_X6_howMany_1_1 (c1 : Int → Int → am_M → am_Rs) (c5 : Int → am_M → am_Rs) (v1 v2 : Int) (M : am_M) : am_Rs :=
  if wI v2 < wI (M 1 0) then
   (X_X6_isThere_1 v2 M).bind fun z1 =>
   if wI z1.1 = 0 then
    c1 v1 (v2 + 1) z1.2
   else c1 (v1 + 1) (v2 + 1) z1.2
  else c5 v1 M
set_option maxRecDepth 100000 in
theorem rs_X6_howMany_1_1 {x : Int} {M' : am_M} {c1 : Int → Int → am_M → am_Rs} {c5 : Int → am_M → am_Rs} (h1 : ∀ w1 w2 M, c1 w1 w2 M = some (x, M') → am_R none 93 bk_X6_howMany 1 (am_wr [4, 1, 1] [w1, w2]) [] SH M (am_rv (am_rk 93) x) SH M') (h5 : ∀ w1 M, c5 w1 M = some (x, M') → am_R none 93 bk_X6_howMany 5 (am_wr [0, 1, 0] [w1]) [] SH M (am_rv (am_rk 93) x) SH M') (v1 v2 : Int) (M : am_M) (h : XB_X6_howMany_1_1 c1 c5 v1 v2 M = some (x, M')) : am_R none 93 bk_X6_howMany 1 (am_wr [4, 1, 1] [v1, v2]) [] SH M (am_rv (am_rk 93) x) SH M' :=
  vRegion (sc := none) (sh := SH) (F := F_X6_howMany_1) (k := 93) (bs := bk_X6_howMany) (r := (x, M')) (C := fun t lv st M => if t = 1 then vCt [4, 1, 1] (un2 c1) lv st M else if t = 5 then vCt [0, 1, 0] (un1 c5) lv st M else none) ok_X6_howMany fs_X6_howMany_1 (fun t lv st M h => by
    split at h
    · rename_i e; subst e; exact vCt_s (un2_s h1) h
    split at h
    · rename_i e; subst e; exact vCt_s (un1_s h5) h
    cases h) 8 1 (am_wr [4, 1, 1] [v1, v2]) [] M h
noncomputable def XB_X6_howMany_1_5 (v1 : Int) (M : am_M) : am_Rs :=
  some (v1, M)
set_option maxRecDepth 100000 in
theorem rs_X6_howMany_1_5 {x : Int} {M' : am_M} (v1 : Int) (M : am_M) (h : XB_X6_howMany_1_5 v1 M = some (x, M')) : am_R none 93 bk_X6_howMany 5 (am_wr [0, 1, 0] [v1]) [] SH M (am_rv (am_rk 93) x) SH M' :=
  vRegion (sc := none) (sh := SH) (F := F_X6_howMany_1) (k := 93) (bs := bk_X6_howMany) (r := (x, M')) (C := fun t lv st M => none) ok_X6_howMany fs_X6_howMany_1 (fun t lv st M h => by
    cases h) 8 5 (am_wr [0, 1, 0] [v1]) [] M h
noncomputable def XB_X6_howMany_1_e (c1 : Int → Int → am_M → am_Rs) (M : am_M) : am_Rs :=
  c1 0 0 M
set_option maxRecDepth 100000 in
theorem rs_X6_howMany_1_e {x : Int} {M' : am_M} {c1 : Int → Int → am_M → am_Rs} (h1 : ∀ w1 w2 M, c1 w1 w2 M = some (x, M') → am_R none 93 bk_X6_howMany 1 (am_wr [4, 1, 1] [w1, w2]) [] SH M (am_rv (am_rk 93) x) SH M') (M : am_M) (h : XB_X6_howMany_1_e c1 M = some (x, M')) : am_R none 93 bk_X6_howMany 0 (am_ent 3 [.inr (.inr (some 1))]) [] SH M (am_rv (am_rk 93) x) SH M' :=
  vRegion (sc := none) (sh := SH) (F := F_X6_howMany_1) (k := 93) (bs := bk_X6_howMany) (r := (x, M')) (C := fun t lv st M => if t = 1 then vCt [4, 1, 1] (un2 c1) lv st M else none) ok_X6_howMany fs_X6_howMany_1 (fun t lv st M h => by
    split at h
    · rename_i e; subst e; exact vCt_s (un2_s h1) h
    cases h) 8 0 (am_ent 3 [.inr (.inr (some 1))]) [] M h
noncomputable def XL_X6_howMany_1_1 (k5 : Int → am_M → am_Rs) : Nat → Int → Int → am_M → am_Rs
  | 0, _, _, _ => none
  | n + 1, v1, v2, M => XB_X6_howMany_1_1 (XL_X6_howMany_1_1 k5 n) k5 v1 v2 M
theorem ls_X6_howMany_1_1 {x : Int} {M' : am_M} {k5 : Int → am_M → am_Rs} (hk5 : ∀ w1 M, k5 w1 M = some (x, M') → am_R none 93 bk_X6_howMany 5 (am_wr [0, 1, 0] [w1]) [] SH M (am_rv (am_rk 93) x) SH M') : ∀ (n : Nat) (v1 v2 : Int) (M : am_M), XL_X6_howMany_1_1 k5 n v1 v2 M = some (x, M') → am_R none 93 bk_X6_howMany 1 (am_wr [4, 1, 1] [v1, v2]) [] SH M (am_rv (am_rk 93) x) SH M'
  | 0, v1, v2, M, h => by cases h
  | n + 1, v1, v2, M, h => rs_X6_howMany_1_1 (ls_X6_howMany_1_1 hk5 n) hk5 v1 v2 M h
noncomputable def X_X6_howMany_1 (M : am_M) : am_Rs := XB_X6_howMany_1_e (XL_X6_howMany_1_1 (XB_X6_howMany_1_5) 1000) M
theorem dc_X6_howMany_1 (M M' : am_M) (x : Int) (h : X_X6_howMany_1 M = some (x, M')) : am_Calls 93 [.inr (.inr (some 1))] SH M (am_rv (am_rk 93) x) SH M' :=
  am_enter pn_X6_howMany ml_X6_howMany rfl (Nat.le_of_ble_eq_true rfl) ⟨Nat.le_refl _, Nat.le_refl _⟩ (rs_X6_howMany_1_e (ls_X6_howMany_1_1 (rs_X6_howMany_1_5) 1000) M h)
noncomputable def F_X2_howManyAre_11 : Nat → List am_V → am_M → am_Rs := fun k as M => if k = 37 then (match as with
  | [.inr (.inr (some 11)), .inl a1, .inl a2] => X_X2_isOf_11 a1 a2 M
  | _ => none) else none
theorem fs_X2_howManyAre_11 : am_FS SH F_X2_howManyAre_11 := by
  intro k as M x M' h
  unfold F_X2_howManyAre_11 at h
  split at h
  · rename_i hk; subst hk
    split at h
    · exact dc_X2_isOf_11 _ _ _ _ _ h
    · cases h
  cases h
noncomputable def XB_X2_howManyAre_11_1 (c1 : Int → Int → Int → am_M → am_Rs) (c5 : Int → am_M → am_Rs) (v1 v2 v3 : Int) (M : am_M) : am_Rs :=
  if wI v3 < wI (M 11 0) then
   (X_X2_isOf_11 v3 v1 M).bind fun z1 =>
   if wI z1.1 = 0 then
    c1 v1 v2 (v3 + 1) z1.2
   else c1 v1 (v2 + 1) (v3 + 1) z1.2
  else c5 v2 M
set_option maxRecDepth 100000 in
theorem rs_X2_howManyAre_11_1 {x : Int} {M' : am_M} {c1 : Int → Int → Int → am_M → am_Rs} {c5 : Int → am_M → am_Rs} (h1 : ∀ w1 w2 w3 M, c1 w1 w2 w3 M = some (x, M') → am_R none 38 bk_X2_howManyAre 1 (am_wr [14, 1, 1, 1] [w1, w2, w3]) [] SH M (am_rv (am_rk 38) x) SH M') (h5 : ∀ w2 M, c5 w2 M = some (x, M') → am_R none 38 bk_X2_howManyAre 5 (am_wr [0, 0, 1, 0] [w2]) [] SH M (am_rv (am_rk 38) x) SH M') (v1 v2 v3 : Int) (M : am_M) (h : XB_X2_howManyAre_11_1 c1 c5 v1 v2 v3 M = some (x, M')) : am_R none 38 bk_X2_howManyAre 1 (am_wr [14, 1, 1, 1] [v1, v2, v3]) [] SH M (am_rv (am_rk 38) x) SH M' :=
  vRegion (sc := none) (sh := SH) (F := F_X2_howManyAre_11) (k := 38) (bs := bk_X2_howManyAre) (r := (x, M')) (C := fun t lv st M => if t = 1 then vCt [14, 1, 1, 1] (un3 c1) lv st M else if t = 5 then vCt [0, 0, 1, 0] (un1 c5) lv st M else none) ok_X2_howManyAre fs_X2_howManyAre_11 (fun t lv st M h => by
    split at h
    · rename_i e; subst e; exact vCt_s (un3_s h1) h
    split at h
    · rename_i e; subst e; exact vCt_s (un1_s h5) h
    cases h) 8 1 (am_wr [14, 1, 1, 1] [v1, v2, v3]) [] M h
noncomputable def XB_X2_howManyAre_11_5 (v2 : Int) (M : am_M) : am_Rs :=
  some (v2, M)
set_option maxRecDepth 100000 in
theorem rs_X2_howManyAre_11_5 {x : Int} {M' : am_M} (v2 : Int) (M : am_M) (h : XB_X2_howManyAre_11_5 v2 M = some (x, M')) : am_R none 38 bk_X2_howManyAre 5 (am_wr [0, 0, 1, 0] [v2]) [] SH M (am_rv (am_rk 38) x) SH M' :=
  vRegion (sc := none) (sh := SH) (F := F_X2_howManyAre_11) (k := 38) (bs := bk_X2_howManyAre) (r := (x, M')) (C := fun t lv st M => none) ok_X2_howManyAre fs_X2_howManyAre_11 (fun t lv st M h => by
    cases h) 8 5 (am_wr [0, 0, 1, 0] [v2]) [] M h
noncomputable def XB_X2_howManyAre_11_e (c1 : Int → Int → Int → am_M → am_Rs) (v1 : Int) (M : am_M) : am_Rs :=
  c1 v1 0 0 M
set_option maxRecDepth 100000 in
theorem rs_X2_howManyAre_11_e {x : Int} {M' : am_M} {c1 : Int → Int → Int → am_M → am_Rs} (h1 : ∀ w1 w2 w3 M, c1 w1 w2 w3 M = some (x, M') → am_R none 38 bk_X2_howManyAre 1 (am_wr [14, 1, 1, 1] [w1, w2, w3]) [] SH M (am_rv (am_rk 38) x) SH M') (v1 : Int) (M : am_M) (h : XB_X2_howManyAre_11_e c1 v1 M = some (x, M')) : am_R none 38 bk_X2_howManyAre 0 (am_ent 4 [.inr (.inr (some 11)), .inl v1]) [] SH M (am_rv (am_rk 38) x) SH M' :=
  vRegion (sc := none) (sh := SH) (F := F_X2_howManyAre_11) (k := 38) (bs := bk_X2_howManyAre) (r := (x, M')) (C := fun t lv st M => if t = 1 then vCt [14, 1, 1, 1] (un3 c1) lv st M else none) ok_X2_howManyAre fs_X2_howManyAre_11 (fun t lv st M h => by
    split at h
    · rename_i e; subst e; exact vCt_s (un3_s h1) h
    cases h) 8 0 (am_ent 4 [.inr (.inr (some 11)), .inl v1]) [] M h
noncomputable def XL_X2_howManyAre_11_1 (k5 : Int → am_M → am_Rs) : Nat → Int → Int → Int → am_M → am_Rs
  | 0, _, _, _, _ => none
  | n + 1, v1, v2, v3, M => XB_X2_howManyAre_11_1 (XL_X2_howManyAre_11_1 k5 n) k5 v1 v2 v3 M
theorem ls_X2_howManyAre_11_1 {x : Int} {M' : am_M} {k5 : Int → am_M → am_Rs} (hk5 : ∀ w2 M, k5 w2 M = some (x, M') → am_R none 38 bk_X2_howManyAre 5 (am_wr [0, 0, 1, 0] [w2]) [] SH M (am_rv (am_rk 38) x) SH M') : ∀ (n : Nat) (v1 v2 v3 : Int) (M : am_M), XL_X2_howManyAre_11_1 k5 n v1 v2 v3 M = some (x, M') → am_R none 38 bk_X2_howManyAre 1 (am_wr [14, 1, 1, 1] [v1, v2, v3]) [] SH M (am_rv (am_rk 38) x) SH M'
  | 0, v1, v2, v3, M, h => by cases h
  | n + 1, v1, v2, v3, M, h => rs_X2_howManyAre_11_1 (ls_X2_howManyAre_11_1 hk5 n) hk5 v1 v2 v3 M h
noncomputable def X_X2_howManyAre_11 (v1 : Int) (M : am_M) : am_Rs := XB_X2_howManyAre_11_e (XL_X2_howManyAre_11_1 (XB_X2_howManyAre_11_5) 1000) v1 M
theorem dc_X2_howManyAre_11 (v1 : Int) (M M' : am_M) (x : Int) (h : X_X2_howManyAre_11 v1 M = some (x, M')) : am_Calls 38 [.inr (.inr (some 11)), .inl v1] SH M (am_rv (am_rk 38) x) SH M' :=
  am_enter pn_X2_howManyAre ml_X2_howManyAre rfl (Nat.le_of_ble_eq_true rfl) ⟨Nat.le_refl _, Nat.le_refl _⟩ (rs_X2_howManyAre_11_e (ls_X2_howManyAre_11_1 (rs_X2_howManyAre_11_5) 1000) v1 M h)
noncomputable def F_X8_count_0 : Nat → List am_V → am_M → am_Rs := fun k as M => if k = 15 then (match as with
  | [.inr (.inr (some 14)), .inl a1] => X_X1_rateOf_14 a1 M
  | _ => none) else if k = 38 then (match as with
  | [.inr (.inr (some 11)), .inl a1] => X_X2_howManyAre_11 a1 M
  | _ => none) else if k = 93 then (match as with
  | [.inr (.inr (some 4))] => X_X6_howMany_4 M
  | [.inr (.inr (some 1))] => X_X6_howMany_1 M
  | _ => none) else if k = 166 then (match as with
  | [.inr (.inr (some 0))] => X_X8_keptLands_0 M
  | _ => none) else none
theorem fs_X8_count_0 : am_FS SH F_X8_count_0 := by
  intro k as M x M' h
  unfold F_X8_count_0 at h
  split at h
  · rename_i hk; subst hk
    split at h
    · exact dc_X1_rateOf_14 _ _ _ _ h
    · cases h
  split at h
  · rename_i hk; subst hk
    split at h
    · exact dc_X2_howManyAre_11 _ _ _ _ h
    · cases h
  split at h
  · rename_i hk; subst hk
    split at h
    · exact dc_X6_howMany_4 _ _ _ h
    · exact dc_X6_howMany_1 _ _ _ h
    · cases h
  split at h
  · rename_i hk; subst hk
    split at h
    · exact dc_X8_keptLands_0 _ _ _ h
    · cases h
  cases h
noncomputable def X_X8_count_0 (v1 : Int) (M : am_M) : am_Rs :=
  if wI v1 = 0 then
   some (M 11 0, M)
  else if wI v1 = 0 + 1 then
   some (M 14 0, M)
  else if wI v1 = 0 + 1 + 1 then
   (X_X1_rateOf_14 0 M).bind fun z1 =>
   some (z1.1, z1.2)
  else if wI v1 = 0 + 1 + 1 + 1 then
   (X_X1_rateOf_14 1 M).bind fun z1 =>
   some (z1.1, z1.2)
  else if wI v1 = 0 + 1 + 1 + 1 + 1 then
   (X_X2_howManyAre_11 1 M).bind fun z1 =>
   some (z1.1, z1.2)
  else if wI v1 = 0 + 1 + 1 + 1 + 1 + 1 then
   (X_X2_howManyAre_11 2 M).bind fun z1 =>
   some (z1.1, z1.2)
  else if wI v1 = 0 + 1 + 1 + 1 + 1 + 1 + 1 then
   (X_X6_howMany_1 M).bind fun z1 =>
   some (z1.1, z1.2)
  else if wI v1 = 0 + 1 + 1 + 1 + 1 + 1 + 1 + 1 then
   (X_X6_howMany_4 M).bind fun z1 =>
   some (z1.1, z1.2)
  else if wI v1 = 0 + 1 + 1 + 1 + 1 + 1 + 1 + 1 + 1 then
   (X_X8_keptLands_0 M).bind fun z1 =>
   some (z1.1, z1.2)
  else some ((-1), M)
set_option maxRecDepth 100000 in
theorem dc_X8_count_0 (v1 : Int) (M M' : am_M) (x : Int) (h : X_X8_count_0 v1 M = some (x, M')) : am_Calls 150 [.inr (.inr (some 0)), .inl v1] SH M (am_rv (am_rk 150) x) SH M' :=
  vCall (F := F_X8_count_0) (C := fun _ _ _ _ => none) (fu := 13) ok_X8_count pn_X8_count ml_X8_count rfl (Nat.le_of_ble_eq_true rfl) fs_X8_count_0 (fun _ _ _ _ h => by cases h) h
