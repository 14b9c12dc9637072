section
noncomputable def F_X7_choose_44 : Nat → List am_V → am_M → am_Rs := fun k as M => if k = 98 then (match as with
  | [.inr (.inr (some 44)), .inl a1, .inl a2, .inl a3] => X_X7_bestReply_44 a1 a2 a3 M
  | _ => none) else if k = 99 then (match as with
  | [.inr (.inr (some 44)), .inl a1, .inl a2, .inl a3, .inl a4] => X_X7_worthOfBoth_44 a1 a2 a3 a4 M
  | _ => none) else if k = 100 then (match as with
  | [.inr (.inr (some 44)), .inl a1, .inl a2, .inl a3, .inl a4] => X_X7_note_44 a1 a2 a3 a4 M
  | _ => none) else none
theorem fs_X7_choose_44 : am_FS SH F_X7_choose_44 := by
  intro k as M x M' h
  unfold F_X7_choose_44 at h
  split at h
  · rename_i hk; subst hk
    split at h
    · exact dc_X7_bestReply_44 _ _ _ _ _ _ h
    · cases h
  split at h
  · rename_i hk; subst hk
    split at h
    · exact dc_X7_worthOfBoth_44 _ _ _ _ _ _ _ h
    · cases h
  split at h
  · rename_i hk; subst hk
    split at h
    · exact dc_X7_note_44 _ _ _ _ _ _ _ h
    · cases h
  cases h
noncomputable def XB_X7_choose_44_1 (c1 : Int → Int → Int → Int → Int → am_M → am_Rs) (c6 : Int → Int → Int → Int → am_M → am_Rs) (v1 v2 v3 v4 v5 : Int) (M : am_M) : am_Rs :=
  if 3 < wI v5 then
   c6 v1 v2 v3 v4 M
  else (X_X7_bestReply_44 v1 v2 v5 M).bind fun z1 =>
  (X_X7_worthOfBoth_44 v1 v2 v5 z1.1 z1.2).bind fun z2 =>
  if wI v5 = 0 then
   c1 v1 v2 v5 z2.1 (v5 + 1) z2.2
  else if wI v4 < wI z2.1 then
   c1 v1 v2 v5 z2.1 (v5 + 1) z2.2
  else c1 v1 v2 v3 v4 (v5 + 1) z2.2
set_option maxRecDepth 100000 in
theorem rs_X7_choose_44_1 {x : Int} {M' : am_M} {c1 : Int → Int → Int → Int → Int → am_M → am_Rs} {c6 : Int → Int → Int → Int → am_M → am_Rs} (h1 : ∀ w1 w2 w3 w4 w5 M, c1 w1 w2 w3 w4 w5 M = some (x, M') → am_R none 97 bk_X7_choose 1 (am_wr [47, 1, 1, 1, 1, 1, 0] [w1, w2, w3, w4, w5]) [] SH M (am_rv (am_rk 97) x) SH M') (h6 : ∀ w1 w2 w3 w4 M, c6 w1 w2 w3 w4 M = some (x, M') → am_R none 97 bk_X7_choose 6 (am_wr [47, 1, 1, 1, 1, 0, 0] [w1, w2, w3, w4]) [] SH M (am_rv (am_rk 97) x) SH M') (v1 v2 v3 v4 v5 : Int) (M : am_M) (h : XB_X7_choose_44_1 c1 c6 v1 v2 v3 v4 v5 M = some (x, M')) : am_R none 97 bk_X7_choose 1 (am_wr [47, 1, 1, 1, 1, 1, 0] [v1, v2, v3, v4, v5]) [] SH M (am_rv (am_rk 97) x) SH M' :=
  vRegion (sc := none) (sh := SH) (F := F_X7_choose_44) (k := 97) (bs := bk_X7_choose) (r := (x, M')) (C := fun t lv st M => if t = 1 then vCt [47, 1, 1, 1, 1, 1, 0] (un5 c1) lv st M else if t = 6 then vCt [47, 1, 1, 1, 1, 0, 0] (un4 c6) lv st M else none) ok_X7_choose fs_X7_choose_44 (fun t lv st M h => by
    split at h
    · rename_i e; subst e; exact vCt_s (un5_s h1) h
    split at h
    · rename_i e; subst e; exact vCt_s (un4_s h6) h
    cases h) 9 1 (am_wr [47, 1, 1, 1, 1, 1, 0] [v1, v2, v3, v4, v5]) [] M h
noncomputable def XB_X7_choose_44_6 (v1 v2 v3 v4 : Int) (M : am_M) : am_Rs :=
  (X_X7_note_44 v1 v2 v4 v3 M).bind fun z1 =>
  some (0, z1.2)
set_option maxRecDepth 100000 in
theorem rs_X7_choose_44_6 {x : Int} {M' : am_M} (v1 v2 v3 v4 : Int) (M : am_M) (h : XB_X7_choose_44_6 v1 v2 v3 v4 M = some (x, M')) : am_R none 97 bk_X7_choose 6 (am_wr [47, 1, 1, 1, 1, 0, 0] [v1, v2, v3, v4]) [] SH M (am_rv (am_rk 97) x) SH M' :=
  vRegion (sc := none) (sh := SH) (F := F_X7_choose_44) (k := 97) (bs := bk_X7_choose) (r := (x, M')) (C := fun t lv st M => none) ok_X7_choose fs_X7_choose_44 (fun t lv st M h => by
    cases h) 9 6 (am_wr [47, 1, 1, 1, 1, 0, 0] [v1, v2, v3, v4]) [] M h
noncomputable def XB_X7_choose_44_e (c1 : Int → Int → Int → Int → Int → am_M → am_Rs) (v1 v2 : Int) (M : am_M) : am_Rs :=
  c1 v1 v2 0 0 0 M
set_option maxRecDepth 100000 in
theorem rs_X7_choose_44_e {x : Int} {M' : am_M} {c1 : Int → Int → Int → Int → Int → am_M → am_Rs} (h1 : ∀ w1 w2 w3 w4 w5 M, c1 w1 w2 w3 w4 w5 M = some (x, M') → am_R none 97 bk_X7_choose 1 (am_wr [47, 1, 1, 1, 1, 1, 0] [w1, w2, w3, w4, w5]) [] SH M (am_rv (am_rk 97) x) SH M') (v1 v2 : Int) (M : am_M) (h : XB_X7_choose_44_e c1 v1 v2 M = some (x, M')) : am_R none 97 bk_X7_choose 0 (am_ent 7 [.inr (.inr (some 44)), .inl v1, .inl v2]) [] SH M (am_rv (am_rk 97) x) SH M' :=
  vRegion (sc := none) (sh := SH) (F := F_X7_choose_44) (k := 97) (bs := bk_X7_choose) (r := (x, M')) (C := fun t lv st M => if t = 1 then vCt [47, 1, 1, 1, 1, 1, 0] (un5 c1) lv st M else none) ok_X7_choose fs_X7_choose_44 (fun t lv st M h => by
    split at h
    · rename_i e; subst e; exact vCt_s (un5_s h1) h
    cases h) 9 0 (am_ent 7 [.inr (.inr (some 44)), .inl v1, .inl v2]) [] M h
noncomputable def XL_X7_choose_44_1 (k6 : Int → Int → Int → Int → am_M → am_Rs) : Nat → Int → Int → Int → Int → Int → am_M → am_Rs
  | 0, _, _, _, _, _, _ => none
  | n + 1, v1, v2, v3, v4, v5, M => XB_X7_choose_44_1 (XL_X7_choose_44_1 k6 n) k6 v1 v2 v3 v4 v5 M
theorem ls_X7_choose_44_1 {x : Int} {M' : am_M} {k6 : Int → Int → Int → Int → am_M → am_Rs} (hk6 : ∀ w1 w2 w3 w4 M, k6 w1 w2 w3 w4 M = some (x, M') → am_R none 97 bk_X7_choose 6 (am_wr [47, 1, 1, 1, 1, 0, 0] [w1, w2, w3, w4]) [] SH M (am_rv (am_rk 97) x) SH M') : ∀ (n : Nat) (v1 v2 v3 v4 v5 : Int) (M : am_M), XL_X7_choose_44_1 k6 n v1 v2 v3 v4 v5 M = some (x, M') → am_R none 97 bk_X7_choose 1 (am_wr [47, 1, 1, 1, 1, 1, 0] [v1, v2, v3, v4, v5]) [] SH M (am_rv (am_rk 97) x) SH M'
  | 0, v1, v2, v3, v4, v5, M, h => by cases h
  | n + 1, v1, v2, v3, v4, v5, M, h => rs_X7_choose_44_1 (ls_X7_choose_44_1 hk6 n) hk6 v1 v2 v3 v4 v5 M h
noncomputable def X_X7_choose_44 (v1 v2 : Int) (M : am_M) : am_Rs := XB_X7_choose_44_e (XL_X7_choose_44_1 (XB_X7_choose_44_6) 1000) v1 v2 M
theorem dc_X7_choose_44 (v1 v2 : Int) (M M' : am_M) (x : Int) (h : X_X7_choose_44 v1 v2 M = some (x, M')) : am_Calls 97 [.inr (.inr (some 44)), .inl v1, .inl v2] SH M (am_rv (am_rk 97) x) SH M' :=
  am_enter pn_X7_choose ml_X7_choose rfl (Nat.le_of_ble_eq_true rfl) ⟨Nat.le_refl _, Nat.le_refl _⟩ (rs_X7_choose_44_e (ls_X7_choose_44_1 (rs_X7_choose_44_6) 1000) v1 v2 M h)
noncomputable def F_X7_solve_44 : Nat → List am_V → am_M → am_Rs := fun k as M => if k = 97 then (match as with
  | [.inr (.inr (some 44)), .inl a1, .inl a2] => X_X7_choose_44 a1 a2 M
  | _ => none) else if k = 100 then (match as with
  | [.inr (.inr (some 44)), .inl a1, .inl a2, .inl a3, .inl a4] => X_X7_note_44 a1 a2 a3 a4 M
  | _ => none) else none
theorem fs_X7_solve_44 : am_FS SH F_X7_solve_44 := by
  intro k as M x M' h
  unfold F_X7_solve_44 at h
  split at h
  · rename_i hk; subst hk
    split at h
    · exact dc_X7_choose_44 _ _ _ _ _ h
    · cases h
  split at h
  · rename_i hk; subst hk
    split at h
    · exact dc_X7_note_44 _ _ _ _ _ _ _ h
    · cases h
  cases h
noncomputable def XB_X7_solve_44_1 (c1 : Int → Int → am_M → am_Rs) (c3 : Int → am_M → am_Rs) (v1 v3 : Int) (M : am_M) : am_Rs :=
  if wI (M 11 0) < wI v3 then
   c3 v1 M
  else (X_X7_note_44 v1 v3 ((2 * v3) - (M 11 0)) 0 M).bind fun z1 =>
  c1 v1 (v3 + 1) z1.2
set_option maxRecDepth 100000 in
theorem rs_X7_solve_44_1 {x : Int} {M' : am_M} {c1 : Int → Int → am_M → am_Rs} {c3 : Int → am_M → am_Rs} (h1 : ∀ w1 w3 M, c1 w1 w3 M = some (x, M') → am_R none 96 bk_X7_solve 1 (am_wr [47, 1, 0, 1, 0] [w1, w3]) [] SH M (am_rv (am_rk 96) x) SH M') (h3 : ∀ w1 M, c3 w1 M = some (x, M') → am_R none 96 bk_X7_solve 3 (am_wr [47, 1, 0, 0, 0] [w1]) [] SH M (am_rv (am_rk 96) x) SH M') (v1 v3 : Int) (M : am_M) (h : XB_X7_solve_44_1 c1 c3 v1 v3 M = some (x, M')) : am_R none 96 bk_X7_solve 1 (am_wr [47, 1, 0, 1, 0] [v1, v3]) [] SH M (am_rv (am_rk 96) x) SH M' :=
  vRegion (sc := none) (sh := SH) (F := F_X7_solve_44) (k := 96) (bs := bk_X7_solve) (r := (x, M')) (C := fun t lv st M => if t = 1 then vCt [47, 1, 0, 1, 0] (un2 c1) lv st M else if t = 3 then vCt [47, 1, 0, 0, 0] (un1 c3) lv st M else none) ok_X7_solve fs_X7_solve_44 (fun t lv st M h => by
    split at h
    · rename_i e; subst e; exact vCt_s (un2_s h1) h
    split at h
    · rename_i e; subst e; exact vCt_s (un1_s h3) h
    cases h) 12 1 (am_wr [47, 1, 0, 1, 0] [v1, v3]) [] M h
noncomputable def XB_X7_solve_44_3 (c4 : Int → am_M → am_Rs) (v1 : Int) (M : am_M) : am_Rs :=
  c4 (v1 - 1) M
set_option maxRecDepth 100000 in
theorem rs_X7_solve_44_3 {x : Int} {M' : am_M} {c4 : Int → am_M → am_Rs} (h4 : ∀ w3 M, c4 w3 M = some (x, M') → am_R none 96 bk_X7_solve 4 (am_wr [47, 0, 0, 1, 0] [w3]) [] SH M (am_rv (am_rk 96) x) SH M') (v1 : Int) (M : am_M) (h : XB_X7_solve_44_3 c4 v1 M = some (x, M')) : am_R none 96 bk_X7_solve 3 (am_wr [47, 1, 0, 0, 0] [v1]) [] SH M (am_rv (am_rk 96) x) SH M' :=
  vRegion (sc := none) (sh := SH) (F := F_X7_solve_44) (k := 96) (bs := bk_X7_solve) (r := (x, M')) (C := fun t lv st M => if t = 4 then vCt [47, 0, 0, 1, 0] (un1 c4) lv st M else none) ok_X7_solve fs_X7_solve_44 (fun t lv st M h => by
    split at h
    · rename_i e; subst e; exact vCt_s (un1_s h4) h
    cases h) 12 3 (am_wr [47, 1, 0, 0, 0] [v1]) [] M h
noncomputable def XB_X7_solve_44_4 (c6 : Int → Int → am_M → am_Rs) (c9 : am_M → am_Rs) (v3 : Int) (M : am_M) : am_Rs :=
  if wI v3 < 0 then
   c9 M
  else c6 v3 0 M
set_option maxRecDepth 100000 in
theorem rs_X7_solve_44_4 {x : Int} {M' : am_M} {c6 : Int → Int → am_M → am_Rs} {c9 : am_M → am_Rs} (h6 : ∀ w3 w4 M, c6 w3 w4 M = some (x, M') → am_R none 96 bk_X7_solve 6 (am_wr [47, 0, 0, 1, 1] [w3, w4]) [] SH M (am_rv (am_rk 96) x) SH M') (h9 : ∀ M, c9 M = some (x, M') → am_R none 96 bk_X7_solve 9 (am_wr [0, 0, 0, 0, 0] []) [] SH M (am_rv (am_rk 96) x) SH M') (v3 : Int) (M : am_M) (h : XB_X7_solve_44_4 c6 c9 v3 M = some (x, M')) : am_R none 96 bk_X7_solve 4 (am_wr [47, 0, 0, 1, 0] [v3]) [] SH M (am_rv (am_rk 96) x) SH M' :=
  vRegion (sc := none) (sh := SH) (F := F_X7_solve_44) (k := 96) (bs := bk_X7_solve) (r := (x, M')) (C := fun t lv st M => if t = 6 then vCt [47, 0, 0, 1, 1] (un2 c6) lv st M else if t = 9 then vCt [0, 0, 0, 0, 0] (un0 c9) lv st M else none) ok_X7_solve fs_X7_solve_44 (fun t lv st M h => by
    split at h
    · rename_i e; subst e; exact vCt_s (un2_s h6) h
    split at h
    · rename_i e; subst e; exact vCt_s (un0_s h9) h
    cases h) 12 4 (am_wr [47, 0, 0, 1, 0] [v3]) [] M h
noncomputable def XB_X7_solve_44_6 (c6 : Int → Int → am_M → am_Rs) (c8 : Int → am_M → am_Rs) (v3 v4 : Int) (M : am_M) : am_Rs :=
  if wI (M 11 0) < wI v4 then
   c8 v3 M
  else (X_X7_choose_44 v3 v4 M).bind fun z1 =>
  c6 v3 (v4 + 1) z1.2
set_option maxRecDepth 100000 in
theorem rs_X7_solve_44_6 {x : Int} {M' : am_M} {c6 : Int → Int → am_M → am_Rs} {c8 : Int → am_M → am_Rs} (h6 : ∀ w3 w4 M, c6 w3 w4 M = some (x, M') → am_R none 96 bk_X7_solve 6 (am_wr [47, 0, 0, 1, 1] [w3, w4]) [] SH M (am_rv (am_rk 96) x) SH M') (h8 : ∀ w3 M, c8 w3 M = some (x, M') → am_R none 96 bk_X7_solve 8 (am_wr [47, 0, 0, 1, 0] [w3]) [] SH M (am_rv (am_rk 96) x) SH M') (v3 v4 : Int) (M : am_M) (h : XB_X7_solve_44_6 c6 c8 v3 v4 M = some (x, M')) : am_R none 96 bk_X7_solve 6 (am_wr [47, 0, 0, 1, 1] [v3, v4]) [] SH M (am_rv (am_rk 96) x) SH M' :=
  vRegion (sc := none) (sh := SH) (F := F_X7_solve_44) (k := 96) (bs := bk_X7_solve) (r := (x, M')) (C := fun t lv st M => if t = 6 then vCt [47, 0, 0, 1, 1] (un2 c6) lv st M else if t = 8 then vCt [47, 0, 0, 1, 0] (un1 c8) lv st M else none) ok_X7_solve fs_X7_solve_44 (fun t lv st M h => by
    split at h
    · rename_i e; subst e; exact vCt_s (un2_s h6) h
    split at h
    · rename_i e; subst e; exact vCt_s (un1_s h8) h
    cases h) 12 6 (am_wr [47, 0, 0, 1, 1] [v3, v4]) [] M h
noncomputable def XB_X7_solve_44_9 (M : am_M) : am_Rs :=
  some (0, M)
set_option maxRecDepth 100000 in
theorem rs_X7_solve_44_9 {x : Int} {M' : am_M} (M : am_M) (h : XB_X7_solve_44_9 M = some (x, M')) : am_R none 96 bk_X7_solve 9 (am_wr [0, 0, 0, 0, 0] []) [] SH M (am_rv (am_rk 96) x) SH M' :=
  vRegion (sc := none) (sh := SH) (F := F_X7_solve_44) (k := 96) (bs := bk_X7_solve) (r := (x, M')) (C := fun t lv st M => none) ok_X7_solve fs_X7_solve_44 (fun t lv st M h => by
    cases h) 12 9 (am_wr [0, 0, 0, 0, 0] []) [] M h
noncomputable def XB_X7_solve_44_8 (c4 : Int → am_M → am_Rs) (v3 : Int) (M : am_M) : am_Rs :=
  c4 (v3 + (-1)) M
set_option maxRecDepth 100000 in
theorem rs_X7_solve_44_8 {x : Int} {M' : am_M} {c4 : Int → am_M → am_Rs} (h4 : ∀ w3 M, c4 w3 M = some (x, M') → am_R none 96 bk_X7_solve 4 (am_wr [47, 0, 0, 1, 0] [w3]) [] SH M (am_rv (am_rk 96) x) SH M') (v3 : Int) (M : am_M) (h : XB_X7_solve_44_8 c4 v3 M = some (x, M')) : am_R none 96 bk_X7_solve 8 (am_wr [47, 0, 0, 1, 0] [v3]) [] SH M (am_rv (am_rk 96) x) SH M' :=
  vRegion (sc := none) (sh := SH) (F := F_X7_solve_44) (k := 96) (bs := bk_X7_solve) (r := (x, M')) (C := fun t lv st M => if t = 4 then vCt [47, 0, 0, 1, 0] (un1 c4) lv st M else none) ok_X7_solve fs_X7_solve_44 (fun t lv st M h => by
    split at h
    · rename_i e; subst e; exact vCt_s (un1_s h4) h
    cases h) 12 8 (am_wr [47, 0, 0, 1, 0] [v3]) [] M h
noncomputable def XB_X7_solve_44_e (c1 : Int → Int → am_M → am_Rs) (v1 v2 : Int) (M : am_M) : am_Rs :=
  c1 v1 0 (am_up M 44 4 v2)
set_option maxRecDepth 100000 in
theorem rs_X7_solve_44_e {x : Int} {M' : am_M} {c1 : Int → Int → am_M → am_Rs} (h1 : ∀ w1 w3 M, c1 w1 w3 M = some (x, M') → am_R none 96 bk_X7_solve 1 (am_wr [47, 1, 0, 1, 0] [w1, w3]) [] SH M (am_rv (am_rk 96) x) SH M') (v1 v2 : Int) (M : am_M) (h : XB_X7_solve_44_e c1 v1 v2 M = some (x, M')) : am_R none 96 bk_X7_solve 0 (am_ent 5 [.inr (.inr (some 44)), .inl v1, .inl v2]) [] SH M (am_rv (am_rk 96) x) SH M' :=
  vRegion (sc := none) (sh := SH) (F := F_X7_solve_44) (k := 96) (bs := bk_X7_solve) (r := (x, M')) (C := fun t lv st M => if t = 1 then vCt [47, 1, 0, 1, 0] (un2 c1) lv st M else none) ok_X7_solve fs_X7_solve_44 (fun t lv st M h => by
    split at h
    · rename_i e; subst e; exact vCt_s (un2_s h1) h
    cases h) 12 0 (am_ent 5 [.inr (.inr (some 44)), .inl v1, .inl v2]) [] M h
noncomputable def XL_X7_solve_44_1 (k3 : Int → am_M → am_Rs) : Nat → Int → Int → am_M → am_Rs
  | 0, _, _, _ => none
  | n + 1, v1, v3, M => XB_X7_solve_44_1 (XL_X7_solve_44_1 k3 n) k3 v1 v3 M
theorem ls_X7_solve_44_1 {x : Int} {M' : am_M} {k3 : Int → am_M → am_Rs} (hk3 : ∀ w1 M, k3 w1 M = some (x, M') → am_R none 96 bk_X7_solve 3 (am_wr [47, 1, 0, 0, 0] [w1]) [] SH M (am_rv (am_rk 96) x) SH M') : ∀ (n : Nat) (v1 v3 : Int) (M : am_M), XL_X7_solve_44_1 k3 n v1 v3 M = some (x, M') → am_R none 96 bk_X7_solve 1 (am_wr [47, 1, 0, 1, 0] [v1, v3]) [] SH M (am_rv (am_rk 96) x) SH M'
  | 0, v1, v3, M, h => by cases h
  | n + 1, v1, v3, M, h => rs_X7_solve_44_1 (ls_X7_solve_44_1 hk3 n) hk3 v1 v3 M h
noncomputable def XL_X7_solve_44_6 (k8 : Int → am_M → am_Rs) : Nat → Int → Int → am_M → am_Rs
  | 0, _, _, _ => none
  | n + 1, v3, v4, M => XB_X7_solve_44_6 (XL_X7_solve_44_6 k8 n) k8 v3 v4 M
theorem ls_X7_solve_44_6 {x : Int} {M' : am_M} {k8 : Int → am_M → am_Rs} (hk8 : ∀ w3 M, k8 w3 M = some (x, M') → am_R none 96 bk_X7_solve 8 (am_wr [47, 0, 0, 1, 0] [w3]) [] SH M (am_rv (am_rk 96) x) SH M') : ∀ (n : Nat) (v3 v4 : Int) (M : am_M), XL_X7_solve_44_6 k8 n v3 v4 M = some (x, M') → am_R none 96 bk_X7_solve 6 (am_wr [47, 0, 0, 1, 1] [v3, v4]) [] SH M (am_rv (am_rk 96) x) SH M'
  | 0, v3, v4, M, h => by cases h
  | n + 1, v3, v4, M, h => rs_X7_solve_44_6 (ls_X7_solve_44_6 hk8 n) hk8 v3 v4 M h
noncomputable def XL_X7_solve_44_4 (k9 : am_M → am_Rs) : Nat → Int → am_M → am_Rs
  | 0, _, _ => none
  | n + 1, v3, M => XB_X7_solve_44_4 (XL_X7_solve_44_6 (XB_X7_solve_44_8 (XL_X7_solve_44_4 k9 n)) 1000) k9 v3 M
theorem ls_X7_solve_44_4 {x : Int} {M' : am_M} {k9 : am_M → am_Rs} (hk9 : ∀ M, k9 M = some (x, M') → am_R none 96 bk_X7_solve 9 (am_wr [0, 0, 0, 0, 0] []) [] SH M (am_rv (am_rk 96) x) SH M') : ∀ (n : Nat) (v3 : Int) (M : am_M), XL_X7_solve_44_4 k9 n v3 M = some (x, M') → am_R none 96 bk_X7_solve 4 (am_wr [47, 0, 0, 1, 0] [v3]) [] SH M (am_rv (am_rk 96) x) SH M'
  | 0, v3, M, h => by cases h
  | n + 1, v3, M, h => rs_X7_solve_44_4 (ls_X7_solve_44_6 (rs_X7_solve_44_8 (ls_X7_solve_44_4 hk9 n)) 1000) hk9 v3 M h
noncomputable def X_X7_solve_44 (v1 v2 : Int) (M : am_M) : am_Rs := XB_X7_solve_44_e (XL_X7_solve_44_1 (XB_X7_solve_44_3 (XL_X7_solve_44_4 (XB_X7_solve_44_9) 1000)) 1000) v1 v2 M
theorem dc_X7_solve_44 (v1 v2 : Int) (M M' : am_M) (x : Int) (h : X_X7_solve_44 v1 v2 M = some (x, M')) : am_Calls 96 [.inr (.inr (some 44)), .inl v1, .inl v2] SH M (am_rv (am_rk 96) x) SH M' :=
  am_enter pn_X7_solve ml_X7_solve rfl (Nat.le_of_ble_eq_true rfl) ⟨Nat.le_refl _, Nat.le_refl _⟩ (rs_X7_solve_44_e (ls_X7_solve_44_1 (rs_X7_solve_44_3 (ls_X7_solve_44_4 (rs_X7_solve_44_9) 1000)) 1000) v1 v2 M h)
noncomputable def F_X8_game_0 : Nat → List am_V → am_M → am_Rs := fun k as M => if k = 96 then (match as with
  | [.inr (.inr (some 44)), .inl a1, .inl a2] => X_X7_solve_44 a1 a2 M
  | _ => none) else if k = 101 then (match as with
  | [.inr (.inr (some 44)), .inl a1, .inl a2] => X_X7_worthOf_44 a1 a2 M
  | _ => none) else if k = 155 then (match as with
  | [.inr (.inr (some 0)), .inl a1] => X_X8_tell_0 a1 M
  | _ => none) else if k = 158 then (match as with
  | [.inr (.inr (some 0))] => X_X8_hasNoLand_0 M
  | _ => none) else if k = 162 then (match as with
  | [.inl a0, .inl a1] => X_X8_isGame a0 a1 M
  | _ => none) else none
theorem fs_X8_game_0 : am_FS SH F_X8_game_0 := by
  intro k as M x M' h
  unfold F_X8_game_0 at h
  split at h
  · rename_i hk; subst hk
    split at h
    · exact dc_X7_solve_44 _ _ _ _ _ h
    · cases h
  split at h
  · rename_i hk; subst hk
    split at h
    · exact dc_X7_worthOf_44 _ _ _ _ _ h
    · cases h
  split at h
  · rename_i hk; subst hk
    split at h
    · exact dc_X8_tell_0 _ _ _ _ h
    · cases h
  split at h
  · rename_i hk; subst hk
    split at h
    · exact dc_X8_hasNoLand_0 _ _ _ h
    · cases h
  split at h
  · rename_i hk; subst hk
    split at h
    · exact dc_X8_isGame _ _ _ _ _ h
    · cases h
  cases h
noncomputable def X_X8_game_0 (v1 v2 : Int) (M : am_M) : am_Rs :=
  (X_X8_isGame v1 v2 M).bind fun z1 =>
  if wI z1.1 = 0 then
   some ((-1), z1.2)
  else (X_X8_hasNoLand_0 z1.2).bind fun z2 =>
  if wI z2.1 = 0 then
   (X_X7_solve_44 v1 v2 z2.2).bind fun z3 =>
   (X_X7_worthOf_44 0 (z3.2 14 1) z3.2).bind fun z4 =>
   (X_X8_tell_0 z4.1 z4.2).bind fun z5 =>
   some (z5.1, z5.2)
  else some ((-4), z2.2)
set_option maxRecDepth 100000 in
theorem dc_X8_game_0 (v1 v2 : Int) (M M' : am_M) (x : Int) (h : X_X8_game_0 v1 v2 M = some (x, M')) : am_Calls 140 [.inr (.inr (some 0)), .inl v1, .inl v2] SH M (am_rv (am_rk 140) x) SH M' :=
  vCall (F := F_X8_game_0) (C := fun _ _ _ _ => none) (fu := 7) ok_X8_game pn_X8_game ml_X8_game rfl (Nat.le_of_ble_eq_true rfl) fs_X8_game_0 (fun _ _ _ _ h => by cases h) h
noncomputable def F_X7_bestSaying_44 : Nat → List am_V → am_M → am_Rs := fun k as M => if k = 103 then (match as with
  | [.inl a0, .inl a1] => X_X7_isSlot a0 a1 M
  | _ => none) else none
theorem fs_X7_bestSaying_44 : am_FS SH F_X7_bestSaying_44 := by
  intro k as M x M' h
  unfold F_X7_bestSaying_44 at h
  split at h
  · rename_i hk; subst hk
    split at h
    · exact dc_X7_isSlot _ _ _ _ _ h
    · cases h
  cases h
noncomputable def X_X7_bestSaying_44 (v1 v2 : Int) (M : am_M) : am_Rs :=
  (X_X7_isSlot v1 v2 M).bind fun z1 =>
  if wI z1.1 = 0 then
   some (0, z1.2)
  else if 0 ≤ wI ((v1 * 13) + v2) ∧ wI ((v1 * 13) + v2) < 65 then
  some (z1.2 46 (wI ((v1 * 13) + v2)).toNat, z1.2)
  else none
set_option maxRecDepth 100000 in
theorem dc_X7_bestSaying_44 (v1 v2 : Int) (M M' : am_M) (x : Int) (h : X_X7_bestSaying_44 v1 v2 M = some (x, M')) : am_Calls 102 [.inr (.inr (some 44)), .inl v1, .inl v2] SH M (am_rv (am_rk 102) x) SH M' :=
  vCall (F := F_X7_bestSaying_44) (C := fun _ _ _ _ => none) (fu := 6) ok_X7_bestSaying pn_X7_bestSaying ml_X7_bestSaying rfl (Nat.le_of_ble_eq_true rfl) fs_X7_bestSaying_44 (fun _ _ _ _ h => by cases h) h
noncomputable def F_X8_said_0 : Nat → List am_V → am_M → am_Rs := fun k as M => if k = 96 then (match as with
  | [.inr (.inr (some 44)), .inl a1, .inl a2] => X_X7_solve_44 a1 a2 M
  | _ => none) else if k = 102 then (match as with
  | [.inr (.inr (some 44)), .inl a1, .inl a2] => X_X7_bestSaying_44 a1 a2 M
  | _ => none) else if k = 158 then (match as with
  | [.inr (.inr (some 0))] => X_X8_hasNoLand_0 M
  | _ => none) else if k = 162 then (match as with
  | [.inl a0, .inl a1] => X_X8_isGame a0 a1 M
  | _ => none) else none
theorem fs_X8_said_0 : am_FS SH F_X8_said_0 := by
  intro k as M x M' h
  unfold F_X8_said_0 at h
  split at h
  · rename_i hk; subst hk
    split at h
    · exact dc_X7_solve_44 _ _ _ _ _ h
    · cases h
  split at h
  · rename_i hk; subst hk
    split at h
    · exact dc_X7_bestSaying_44 _ _ _ _ _ h
    · cases h
  split at h
  · rename_i hk; subst hk
    split at h
    · exact dc_X8_hasNoLand_0 _ _ _ h
    · cases h
  split at h
  · rename_i hk; subst hk
    split at h
    · exact dc_X8_isGame _ _ _ _ _ h
    · cases h
  cases h
noncomputable def X_X8_said_0 (v1 v2 : Int) (M : am_M) : am_Rs :=
  (X_X8_isGame v1 v2 M).bind fun z1 =>
  if wI z1.1 = 0 then
   some ((-1), z1.2)
  else if wI v1 = 0 then
   some ((-1), z1.2)
  else (X_X8_hasNoLand_0 z1.2).bind fun z2 =>
  if wI z2.1 = 0 then
   (X_X7_solve_44 v1 v2 z2.2).bind fun z3 =>
   (X_X7_bestSaying_44 0 (z3.2 14 1) z3.2).bind fun z4 =>
   some (z4.1, z4.2)
  else some ((-4), z2.2)
set_option maxRecDepth 100000 in
theorem dc_X8_said_0 (v1 v2 : Int) (M M' : am_M) (x : Int) (h : X_X8_said_0 v1 v2 M = some (x, M')) : am_Calls 141 [.inr (.inr (some 0)), .inl v1, .inl v2] SH M (am_rv (am_rk 141) x) SH M' :=
  vCall (F := F_X8_said_0) (C := fun _ _ _ _ => none) (fu := 8) ok_X8_said pn_X8_said ml_X8_said rfl (Nat.le_of_ble_eq_true rfl) fs_X8_said_0 (fun _ _ _ _ h => by cases h) h
noncomputable def F_X7_isCalm_44 : Nat → List am_V → am_M → am_Rs := fun k as M => if k = 98 then (match as with
  | [.inr (.inr (some 44)), .inl a1, .inl a2, .inl a3] => X_X7_bestReply_44 a1 a2 a3 M
  | _ => none) else if k = 102 then (match as with
  | [.inr (.inr (some 44)), .inl a1, .inl a2] => X_X7_bestSaying_44 a1 a2 M
  | _ => none) else none
theorem fs_X7_isCalm_44 : am_FS SH F_X7_isCalm_44 := by
  intro k as M x M' h
  unfold F_X7_isCalm_44 at h
  split at h
  · rename_i hk; subst hk
    split at h
    · exact dc_X7_bestReply_44 _ _ _ _ _ _ h
    · cases h
  split at h
  · rename_i hk; subst hk
    split at h
    · exact dc_X7_bestSaying_44 _ _ _ _ _ h
    · cases h
  cases h
noncomputable def XB_X7_isCalm_44_1 (c1 : Int → Int → am_M → am_Rs) (c4 : am_M → am_Rs) (c6 : am_M → am_Rs) (v1 v2 : Int) (M : am_M) : am_Rs :=
  if wI v2 < wI v1 then
   (X_X7_bestSaying_44 v2 (M 14 1) M).bind fun z1 =>
   if wI z1.1 = 0 then
    (X_X7_bestReply_44 v2 (z1.2 14 1) 0 z1.2).bind fun z2 =>
    if wI z2.1 = 0 then
     c1 v1 (v2 + 1) z2.2
    else c4 z2.2
   else c4 z1.2
  else c6 M
set_option maxRecDepth 100000 in
theorem rs_X7_isCalm_44_1 {x : Int} {M' : am_M} {c1 : Int → Int → am_M → am_Rs} {c4 : am_M → am_Rs} {c6 : am_M → am_Rs} (h1 : ∀ w1 w2 M, c1 w1 w2 M = some (x, M') → am_R none 104 bk_X7_isCalm 1 (am_wr [47, 1, 1] [w1, w2]) [] SH M (am_rv (am_rk 104) x) SH M') (h4 : ∀ M, c4 M = some (x, M') → am_R none 104 bk_X7_isCalm 4 (am_wr [0, 0, 0] []) [] SH M (am_rv (am_rk 104) x) SH M') (h6 : ∀ M, c6 M = some (x, M') → am_R none 104 bk_X7_isCalm 6 (am_wr [0, 0, 0] []) [] SH M (am_rv (am_rk 104) x) SH M') (v1 v2 : Int) (M : am_M) (h : XB_X7_isCalm_44_1 c1 c4 c6 v1 v2 M = some (x, M')) : am_R none 104 bk_X7_isCalm 1 (am_wr [47, 1, 1] [v1, v2]) [] SH M (am_rv (am_rk 104) x) SH M' :=
  vRegion (sc := none) (sh := SH) (F := F_X7_isCalm_44) (k := 104) (bs := bk_X7_isCalm) (r := (x, M')) (C := fun t lv st M => if t = 1 then vCt [47, 1, 1] (un2 c1) lv st M else if t = 4 then vCt [0, 0, 0] (un0 c4) lv st M else if t = 6 then vCt [0, 0, 0] (un0 c6) lv st M else none) ok_X7_isCalm fs_X7_isCalm_44 (fun t lv st M h => by
    split at h
    · rename_i e; subst e; exact vCt_s (un2_s h1) h
    split at h
    · rename_i e; subst e; exact vCt_s (un0_s h4) h
    split at h
    · rename_i e; subst e; exact vCt_s (un0_s h6) h
    cases h) 9 1 (am_wr [47, 1, 1] [v1, v2]) [] M h
noncomputable def XB_X7_isCalm_44_4 (M : am_M) : am_Rs :=
  some (0, M)
set_option maxRecDepth 100000 in
theorem rs_X7_isCalm_44_4 {x : Int} {M' : am_M} (M : am_M) (h : XB_X7_isCalm_44_4 M = some (x, M')) : am_R none 104 bk_X7_isCalm 4 (am_wr [0, 0, 0] []) [] SH M (am_rv (am_rk 104) x) SH M' :=
  vRegion (sc := none) (sh := SH) (F := F_X7_isCalm_44) (k := 104) (bs := bk_X7_isCalm) (r := (x, M')) (C := fun t lv st M => none) ok_X7_isCalm fs_X7_isCalm_44 (fun t lv st M h => by
    cases h) 9 4 (am_wr [0, 0, 0] []) [] M h
noncomputable def XB_X7_isCalm_44_6 (M : am_M) : am_Rs :=
  some (1, M)
set_option maxRecDepth 100000 in
theorem rs_X7_isCalm_44_6 {x : Int} {M' : am_M} (M : am_M) (h : XB_X7_isCalm_44_6 M = some (x, M')) : am_R none 104 bk_X7_isCalm 6 (am_wr [0, 0, 0] []) [] SH M (am_rv (am_rk 104) x) SH M' :=
  vRegion (sc := none) (sh := SH) (F := F_X7_isCalm_44) (k := 104) (bs := bk_X7_isCalm) (r := (x, M')) (C := fun t lv st M => none) ok_X7_isCalm fs_X7_isCalm_44 (fun t lv st M h => by
    cases h) 9 6 (am_wr [0, 0, 0] []) [] M h
noncomputable def XB_X7_isCalm_44_e (c1 : Int → Int → am_M → am_Rs) (v1 : Int) (M : am_M) : am_Rs :=
  c1 v1 0 M
set_option maxRecDepth 100000 in
theorem rs_X7_isCalm_44_e {x : Int} {M' : am_M} {c1 : Int → Int → am_M → am_Rs} (h1 : ∀ w1 w2 M, c1 w1 w2 M = some (x, M') → am_R none 104 bk_X7_isCalm 1 (am_wr [47, 1, 1] [w1, w2]) [] SH M (am_rv (am_rk 104) x) SH M') (v1 : Int) (M : am_M) (h : XB_X7_isCalm_44_e c1 v1 M = some (x, M')) : am_R none 104 bk_X7_isCalm 0 (am_ent 3 [.inr (.inr (some 44)), .inl v1]) [] SH M (am_rv (am_rk 104) x) SH M' :=
  vRegion (sc := none) (sh := SH) (F := F_X7_isCalm_44) (k := 104) (bs := bk_X7_isCalm) (r := (x, M')) (C := fun t lv st M => if t = 1 then vCt [47, 1, 1] (un2 c1) lv st M else none) ok_X7_isCalm fs_X7_isCalm_44 (fun t lv st M h => by
    split at h
    · rename_i e; subst e; exact vCt_s (un2_s h1) h
    cases h) 9 0 (am_ent 3 [.inr (.inr (some 44)), .inl v1]) [] M h
noncomputable def XL_X7_isCalm_44_1 (k4 : am_M → am_Rs) (k6 : am_M → am_Rs) : Nat → Int → Int → am_M → am_Rs
  | 0, _, _, _ => none
  | n + 1, v1, v2, M => XB_X7_isCalm_44_1 (XL_X7_isCalm_44_1 k4 k6 n) k4 k6 v1 v2 M
theorem ls_X7_isCalm_44_1 {x : Int} {M' : am_M} {k4 : am_M → am_Rs} {k6 : am_M → am_Rs} (hk4 : ∀ M, k4 M = some (x, M') → am_R none 104 bk_X7_isCalm 4 (am_wr [0, 0, 0] []) [] SH M (am_rv (am_rk 104) x) SH M') (hk6 : ∀ M, k6 M = some (x, M') → am_R none 104 bk_X7_isCalm 6 (am_wr [0, 0, 0] []) [] SH M (am_rv (am_rk 104) x) SH M') : ∀ (n : Nat) (v1 v2 : Int) (M : am_M), XL_X7_isCalm_44_1 k4 k6 n v1 v2 M = some (x, M') → am_R none 104 bk_X7_isCalm 1 (am_wr [47, 1, 1] [v1, v2]) [] SH M (am_rv (am_rk 104) x) SH M'
  | 0, v1, v2, M, h => by cases h
  | n + 1, v1, v2, M, h => rs_X7_isCalm_44_1 (ls_X7_isCalm_44_1 hk4 hk6 n) hk4 hk6 v1 v2 M h
noncomputable def X_X7_isCalm_44 (v1 : Int) (M : am_M) : am_Rs := XB_X7_isCalm_44_e (XL_X7_isCalm_44_1 (XB_X7_isCalm_44_4) (XB_X7_isCalm_44_6) 1000) v1 M
theorem dc_X7_isCalm_44 (v1 : Int) (M M' : am_M) (x : Int) (h : X_X7_isCalm_44 v1 M = some (x, M')) : am_Calls 104 [.inr (.inr (some 44)), .inl v1] SH M (am_rv (am_rk 104) x) SH M' :=
  am_enter pn_X7_isCalm ml_X7_isCalm rfl (Nat.le_of_ble_eq_true rfl) ⟨Nat.le_refl _, Nat.le_refl _⟩ (rs_X7_isCalm_44_e (ls_X7_isCalm_44_1 (rs_X7_isCalm_44_4) (rs_X7_isCalm_44_6) 1000) v1 M h)
noncomputable def F_X8_calm_0 : Nat → List am_V → am_M → am_Rs := fun k as M => if k = 96 then (match as with
  | [.inr (.inr (some 44)), .inl a1, .inl a2] => X_X7_solve_44 a1 a2 M
  | _ => none) else if k = 104 then (match as with
  | [.inr (.inr (some 44)), .inl a1] => X_X7_isCalm_44 a1 M
  | _ => none) else if k = 158 then (match as with
  | [.inr (.inr (some 0))] => X_X8_hasNoLand_0 M
  | _ => none) else if k = 162 then (match as with
  | [.inl a0, .inl a1] => X_X8_isGame a0 a1 M
  | _ => none) else none
theorem fs_X8_calm_0 : am_FS SH F_X8_calm_0 := by
  intro k as M x M' h
  unfold F_X8_calm_0 at h
  split at h
  · rename_i hk; subst hk
    split at h
    · exact dc_X7_solve_44 _ _ _ _ _ h
    · cases h
  split at h
  · rename_i hk; subst hk
    split at h
    · exact dc_X7_isCalm_44 _ _ _ _ h
    · cases h
  split at h
  · rename_i hk; subst hk
    split at h
    · exact dc_X8_hasNoLand_0 _ _ _ h
    · cases h
  split at h
  · rename_i hk; subst hk
    split at h
    · exact dc_X8_isGame _ _ _ _ _ h
    · cases h
  cases h
noncomputable def X_X8_calm_0 (v1 v2 : Int) (M : am_M) : am_Rs :=
  (X_X8_isGame v1 v2 M).bind fun z1 =>
  if wI z1.1 = 0 then
   some ((-1), z1.2)
  else (X_X8_hasNoLand_0 z1.2).bind fun z2 =>
  if wI z2.1 = 0 then
   (X_X7_solve_44 v1 v2 z2.2).bind fun z3 =>
   (X_X7_isCalm_44 v1 z3.2).bind fun z4 =>
   if wI z4.1 = 0 then
    some (0, z4.2)
   else some (1, z4.2)
  else some ((-4), z2.2)
set_option maxRecDepth 100000 in
theorem dc_X8_calm_0 (v1 v2 : Int) (M M' : am_M) (x : Int) (h : X_X8_calm_0 v1 v2 M = some (x, M')) : am_Calls 142 [.inr (.inr (some 0)), .inl v1, .inl v2] SH M (am_rv (am_rk 142) x) SH M' :=
  vCall (F := F_X8_calm_0) (C := fun _ _ _ _ => none) (fu := 10) ok_X8_calm pn_X8_calm ml_X8_calm rfl (Nat.le_of_ble_eq_true rfl) fs_X8_calm_0 (fun _ _ _ _ h => by cases h) h
noncomputable def F_X8_law_0 : Nat → List am_V → am_M → am_Rs := fun k as M => if k = 21 then (match as with
  | [.inr (.inr (some 14)), .inl a1] => X_X1_borderAhead_14 a1 M
  | _ => none) else if k = 33 then (match as with
  | [.inr (.inr (some 11)), .inl a1] => X_X2_has_11 a1 M
  | _ => none) else if k = 37 then (match as with
  | [.inr (.inr (some 11)), .inl a1, .inl a2] => X_X2_isOf_11 a1 a2 M
  | _ => none) else if k = 39 then (match as with
  | [.inl a0, .inl a1] => X_X2_crownOf a0 a1 M
  | _ => none) else if k = 40 then (match as with
  | [.inl a0, .inl a1] => X_X2_touches a0 a1 M
  | _ => none) else none
theorem fs_X8_law_0 : am_FS SH F_X8_law_0 := by
  intro k as M x M' h
  unfold F_X8_law_0 at h
  split at h
  · rename_i hk; subst hk
    split at h
    · exact dc_X1_borderAhead_14 _ _ _ _ h
    · cases h
  split at h
  · rename_i hk; subst hk
    split at h
    · exact dc_X2_has_11 _ _ _ _ h
    · cases h
  split at h
  · rename_i hk; subst hk
    split at h
    · exact dc_X2_isOf_11 _ _ _ _ _ h
    · cases h
  split at h
  · rename_i hk; subst hk
    split at h
    · exact dc_X2_crownOf _ _ _ _ _ h
    · cases h
  split at h
  · rename_i hk; subst hk
    split at h
    · exact dc_X2_touches _ _ _ _ _ h
    · cases h
  cases h
noncomputable def X_X8_law_0 (v1 v2 : Int) (M : am_M) : am_Rs :=
  (X_X2_has_11 v1 M).bind fun z1 =>
  if wI z1.1 = 0 then
   some ((-1), z1.2)
  else if wI v2 < 0 then
   some ((-1), z1.2)
  else if 40 < wI v2 then
   some ((-1), z1.2)
  else if wI (z1.2 14 0) < wI v2 then
   some ((-4), z1.2)
  else (X_X1_borderAhead_14 v2 z1.2).bind fun z2 =>
  (X_X2_isOf_11 v1 5 z2.2).bind fun z3 =>
  if wI z3.1 = 0 then
   (X_X2_crownOf v1 z2.1 z3.2).bind fun z4 =>
   some (b_shl_ 1 z4.1, z4.2)
  else (X_X2_touches v1 z2.1 z3.2).bind fun z4 =>
  if wI z4.1 = 0 then
   (X_X2_crownOf v1 z2.1 z4.2).bind fun z5 =>
   some (b_shl_ 1 z5.1, z5.2)
  else some (3, z4.2)
set_option maxRecDepth 100000 in
theorem dc_X8_law_0 (v1 v2 : Int) (M M' : am_M) (x : Int) (h : X_X8_law_0 v1 v2 M = some (x, M')) : am_Calls 143 [.inr (.inr (some 0)), .inl v1, .inl v2] SH M (am_rv (am_rk 143) x) SH M' :=
  vCall (F := F_X8_law_0) (C := fun _ _ _ _ => none) (fu := 12) ok_X8_law pn_X8_law ml_X8_law rfl (Nat.le_of_ble_eq_true rfl) fs_X8_law_0 (fun _ _ _ _ h => by cases h) h
noncomputable def F_X3_areBooks_47_1 : Nat → List am_V → am_M → am_Rs := fun k as M => if k = 33 then (match as with
  | [.inr (.inr (some 11)), .inl a1] => X_X2_has_11 a1 M
  | _ => none) else if k = 83 then (match as with
  | [.inr (.inr (some 1)), .inl a1] => X_X6_sizeOf_1 a1 M
  | _ => none) else if k = 88 then (match as with
  | [.inr (.inr (some 1)), .inl a1, .inl a2] => X_X6_get_1 a1 a2 M
  | _ => none) else if k = 159 then (match as with
  | [.inl a0] => X_X8_isCrown a0 M
  | _ => none) else none
theorem fs_X3_areBooks_47_1 : am_FS SH F_X3_areBooks_47_1 := by
  intro k as M x M' h
  unfold F_X3_areBooks_47_1 at h
  split at h
  · rename_i hk; subst hk
    split at h
    · exact dc_X2_has_11 _ _ _ _ h
    · cases h
  split at h
  · rename_i hk; subst hk
    split at h
    · exact dc_X6_sizeOf_1 _ _ _ _ h
    · cases h
  split at h
  · rename_i hk; subst hk
    split at h
    · exact dc_X6_get_1 _ _ _ _ _ h
    · cases h
  split at h
  · rename_i hk; subst hk
    split at h
    · exact dc_X8_isCrown _ _ _ _ h
    · cases h
  cases h
noncomputable def XB_X3_areBooks_47_1_1 (c1 : Int → Int → am_M → am_Rs) (c4 : am_M → am_Rs) (c7 : am_M → am_Rs) (c9 : am_M → am_Rs) (v2 v3 : Int) (M : am_M) : am_Rs :=
  (X_X6_sizeOf_1 v2 M).bind fun z1 =>
  if wI v3 < wI z1.1 then
   (X_X6_get_1 v2 v3 z1.2).bind fun z2 =>
   if wI z2.1 < 0 then
    c4 z2.2
   else if wI (z2.2 14 0) < wI z2.1 then
    c4 z2.2
   else (X_X6_get_1 v2 (v3 + 1) z2.2).bind fun z3 =>
   (X_X2_has_11 z3.1 z3.2).bind fun z4 =>
   if wI z4.1 = 0 then
    c7 z4.2
   else (X_X6_get_1 v2 (v3 + 2) z4.2).bind fun z5 =>
   (X_X8_isCrown z5.1 z5.2).bind fun z6 =>
   if wI z6.1 = 0 then
    c7 z6.2
   else c1 v2 (v3 + 3) z6.2
  else c9 z1.2
set_option maxRecDepth 100000 in
theorem rs_X3_areBooks_47_1_1 {x : Int} {M' : am_M} {c1 : Int → Int → am_M → am_Rs} {c4 : am_M → am_Rs} {c7 : am_M → am_Rs} {c9 : am_M → am_Rs} (h1 : ∀ w2 w3 M, c1 w2 w3 M = some (x, M') → am_R none 45 bk_X3_areBooks 1 (am_wr [50, 4, 1, 1, 0] [w2, w3]) [] SH M (am_rv (am_rk 45) x) SH M') (h4 : ∀ M, c4 M = some (x, M') → am_R none 45 bk_X3_areBooks 4 (am_wr [0, 0, 0, 0, 0] []) [] SH M (am_rv (am_rk 45) x) SH M') (h7 : ∀ M, c7 M = some (x, M') → am_R none 45 bk_X3_areBooks 7 (am_wr [0, 0, 0, 0, 0] []) [] SH M (am_rv (am_rk 45) x) SH M') (h9 : ∀ M, c9 M = some (x, M') → am_R none 45 bk_X3_areBooks 9 (am_wr [0, 0, 0, 0, 0] []) [] SH M (am_rv (am_rk 45) x) SH M') (v2 v3 : Int) (M : am_M) (h : XB_X3_areBooks_47_1_1 c1 c4 c7 c9 v2 v3 M = some (x, M')) : am_R none 45 bk_X3_areBooks 1 (am_wr [50, 4, 1, 1, 0] [v2, v3]) [] SH M (am_rv (am_rk 45) x) SH M' :=
  vRegion (sc := none) (sh := SH) (F := F_X3_areBooks_47_1) (k := 45) (bs := bk_X3_areBooks) (r := (x, M')) (C := fun t lv st M => if t = 1 then vCt [50, 4, 1, 1, 0] (un2 c1) lv st M else if t = 4 then vCt [0, 0, 0, 0, 0] (un0 c4) lv st M else if t = 7 then vCt [0, 0, 0, 0, 0] (un0 c7) lv st M else if t = 9 then vCt [0, 0, 0, 0, 0] (un0 c9) lv st M else none) ok_X3_areBooks fs_X3_areBooks_47_1 (fun t lv st M h => by
    split at h
    · rename_i e; subst e; exact vCt_s (un2_s h1) h
    split at h
    · rename_i e; subst e; exact vCt_s (un0_s h4) h
    split at h
    · rename_i e; subst e; exact vCt_s (un0_s h7) h
    split at h
    · rename_i e; subst e; exact vCt_s (un0_s h9) h
    cases h) 12 1 (am_wr [50, 4, 1, 1, 0] [v2, v3]) [] M h
noncomputable def XB_X3_areBooks_47_1_4 (M : am_M) : am_Rs :=
  some (0, M)
set_option maxRecDepth 100000 in
theorem rs_X3_areBooks_47_1_4 {x : Int} {M' : am_M} (M : am_M) (h : XB_X3_areBooks_47_1_4 M = some (x, M')) : am_R none 45 bk_X3_areBooks 4 (am_wr [0, 0, 0, 0, 0] []) [] SH M (am_rv (am_rk 45) x) SH M' :=
  vRegion (sc := none) (sh := SH) (F := F_X3_areBooks_47_1) (k := 45) (bs := bk_X3_areBooks) (r := (x, M')) (C := fun t lv st M => none) ok_X3_areBooks fs_X3_areBooks_47_1 (fun t lv st M h => by
    cases h) 12 4 (am_wr [0, 0, 0, 0, 0] []) [] M h
noncomputable def XB_X3_areBooks_47_1_7 (M : am_M) : am_Rs :=
  some (0, M)
set_option maxRecDepth 100000 in
theorem rs_X3_areBooks_47_1_7 {x : Int} {M' : am_M} (M : am_M) (h : XB_X3_areBooks_47_1_7 M = some (x, M')) : am_R none 45 bk_X3_areBooks 7 (am_wr [0, 0, 0, 0, 0] []) [] SH M (am_rv (am_rk 45) x) SH M' :=
  vRegion (sc := none) (sh := SH) (F := F_X3_areBooks_47_1) (k := 45) (bs := bk_X3_areBooks) (r := (x, M')) (C := fun t lv st M => none) ok_X3_areBooks fs_X3_areBooks_47_1 (fun t lv st M h => by
    cases h) 12 7 (am_wr [0, 0, 0, 0, 0] []) [] M h
noncomputable def XB_X3_areBooks_47_1_9 (M : am_M) : am_Rs :=
  some (1, M)
set_option maxRecDepth 100000 in
theorem rs_X3_areBooks_47_1_9 {x : Int} {M' : am_M} (M : am_M) (h : XB_X3_areBooks_47_1_9 M = some (x, M')) : am_R none 45 bk_X3_areBooks 9 (am_wr [0, 0, 0, 0, 0] []) [] SH M (am_rv (am_rk 45) x) SH M' :=
  vRegion (sc := none) (sh := SH) (F := F_X3_areBooks_47_1) (k := 45) (bs := bk_X3_areBooks) (r := (x, M')) (C := fun t lv st M => none) ok_X3_areBooks fs_X3_areBooks_47_1 (fun t lv st M h => by
    cases h) 12 9 (am_wr [0, 0, 0, 0, 0] []) [] M h
noncomputable def XB_X3_areBooks_47_1_e (c1 : Int → Int → am_M → am_Rs) (v2 : Int) (M : am_M) : am_Rs :=
  c1 v2 0 M
set_option maxRecDepth 100000 in
theorem rs_X3_areBooks_47_1_e {x : Int} {M' : am_M} {c1 : Int → Int → am_M → am_Rs} (h1 : ∀ w2 w3 M, c1 w2 w3 M = some (x, M') → am_R none 45 bk_X3_areBooks 1 (am_wr [50, 4, 1, 1, 0] [w2, w3]) [] SH M (am_rv (am_rk 45) x) SH M') (v2 : Int) (M : am_M) (h : XB_X3_areBooks_47_1_e c1 v2 M = some (x, M')) : am_R none 45 bk_X3_areBooks 0 (am_ent 5 [.inr (.inr (some 47)), .inr (.inr (some 1)), .inl v2]) [] SH M (am_rv (am_rk 45) x) SH M' :=
  vRegion (sc := none) (sh := SH) (F := F_X3_areBooks_47_1) (k := 45) (bs := bk_X3_areBooks) (r := (x, M')) (C := fun t lv st M => if t = 1 then vCt [50, 4, 1, 1, 0] (un2 c1) lv st M else none) ok_X3_areBooks fs_X3_areBooks_47_1 (fun t lv st M h => by
    split at h
    · rename_i e; subst e; exact vCt_s (un2_s h1) h
    cases h) 12 0 (am_ent 5 [.inr (.inr (some 47)), .inr (.inr (some 1)), .inl v2]) [] M h
noncomputable def XL_X3_areBooks_47_1_1 (k4 : am_M → am_Rs) (k7 : am_M → am_Rs) (k9 : am_M → am_Rs) : Nat → Int → Int → am_M → am_Rs
  | 0, _, _, _ => none
  | n + 1, v2, v3, M => XB_X3_areBooks_47_1_1 (XL_X3_areBooks_47_1_1 k4 k7 k9 n) k4 k7 k9 v2 v3 M
theorem ls_X3_areBooks_47_1_1 {x : Int} {M' : am_M} {k4 : am_M → am_Rs} {k7 : am_M → am_Rs} {k9 : am_M → am_Rs} (hk4 : ∀ M, k4 M = some (x, M') → am_R none 45 bk_X3_areBooks 4 (am_wr [0, 0, 0, 0, 0] []) [] SH M (am_rv (am_rk 45) x) SH M') (hk7 : ∀ M, k7 M = some (x, M') → am_R none 45 bk_X3_areBooks 7 (am_wr [0, 0, 0, 0, 0] []) [] SH M (am_rv (am_rk 45) x) SH M') (hk9 : ∀ M, k9 M = some (x, M') → am_R none 45 bk_X3_areBooks 9 (am_wr [0, 0, 0, 0, 0] []) [] SH M (am_rv (am_rk 45) x) SH M') : ∀ (n : Nat) (v2 v3 : Int) (M : am_M), XL_X3_areBooks_47_1_1 k4 k7 k9 n v2 v3 M = some (x, M') → am_R none 45 bk_X3_areBooks 1 (am_wr [50, 4, 1, 1, 0] [v2, v3]) [] SH M (am_rv (am_rk 45) x) SH M'
  | 0, v2, v3, M, h => by cases h
  | n + 1, v2, v3, M, h => rs_X3_areBooks_47_1_1 (ls_X3_areBooks_47_1_1 hk4 hk7 hk9 n) hk4 hk7 hk9 v2 v3 M h
noncomputable def X_X3_areBooks_47_1 (v2 : Int) (M : am_M) : am_Rs := XB_X3_areBooks_47_1_e (XL_X3_areBooks_47_1_1 (XB_X3_areBooks_47_1_4) (XB_X3_areBooks_47_1_7) (XB_X3_areBooks_47_1_9) 1000) v2 M
theorem dc_X3_areBooks_47_1 (v2 : Int) (M M' : am_M) (x : Int) (h : X_X3_areBooks_47_1 v2 M = some (x, M')) : am_Calls 45 [.inr (.inr (some 47)), .inr (.inr (some 1)), .inl v2] SH M (am_rv (am_rk 45) x) SH M' :=
  am_enter pn_X3_areBooks ml_X3_areBooks rfl (Nat.le_of_ble_eq_true rfl) ⟨Nat.le_refl _, Nat.le_refl _⟩ (rs_X3_areBooks_47_1_e (ls_X3_areBooks_47_1_1 (rs_X3_areBooks_47_1_4) (rs_X3_areBooks_47_1_7) (rs_X3_areBooks_47_1_9) 1000) v2 M h)
noncomputable def F_X1_retrace_14_11_51 : Nat → List am_V → am_M → am_Rs := fun k as M => if k = 42 then (match as with
  | [.inr (.inr (some 11)), .inl a1, .inl a2, .inl a3, .inl a4] => X_X2_borderAfter_11 a1 a2 a3 a4 M
  | _ => none) else none
theorem fs_X1_retrace_14_11_51 : am_FS SH F_X1_retrace_14_11_51 := by
  intro k as M x M' h
  unfold F_X1_retrace_14_11_51 at h
  split at h
  · rename_i hk; subst hk
    split at h
    · exact dc_X2_borderAfter_11 _ _ _ _ _ _ _ h
    · cases h
  cases h
noncomputable def XB_X1_retrace_14_11_51_3 (c3 : Int → am_M → am_Rs) (c6 : am_M → am_Rs) (v4 : Int) (M : am_M) : am_Rs :=
  if wI v4 < wI (M 14 0) then
   if wI v4 < 40 then
    if 0 ≤ wI v4 ∧ wI v4 < 41 then
    if 0 ≤ wI v4 ∧ wI v4 < 40 then
     if 0 ≤ wI v4 ∧ wI v4 < 40 then
      (X_X2_borderAfter_11 (M 51 (wI v4).toNat) v4 (M 15 (wI v4).toNat) (M 16 (wI v4).toNat) M).bind fun z1 =>
       if 0 ≤ wI (v4 + 1) ∧ wI (v4 + 1) < 41 then
       c3 (v4 + 1) (am_up z1.2 51 (wI (v4 + 1)).toNat z1.1)
       else none
      else none
     else none
    else none
   else c6 M
  else c6 M
set_option maxRecDepth 100000 in
theorem rs_X1_retrace_14_11_51_3 {x : Int} {M' : am_M} {c3 : Int → am_M → am_Rs} {c6 : am_M → am_Rs} (h3 : ∀ w4 M, c3 w4 M = some (x, M') → am_R none 26 bk_X1_retrace 3 (am_wr [17, 14, 0, 54, 1] [w4]) [] SH M (am_rv (am_rk 26) x) SH M') (h6 : ∀ M, c6 M = some (x, M') → am_R none 26 bk_X1_retrace 6 (am_wr [0, 0, 0, 0, 0] []) [] SH M (am_rv (am_rk 26) x) SH M') (v4 : Int) (M : am_M) (h : XB_X1_retrace_14_11_51_3 c3 c6 v4 M = some (x, M')) : am_R none 26 bk_X1_retrace 3 (am_wr [17, 14, 0, 54, 1] [v4]) [] SH M (am_rv (am_rk 26) x) SH M' :=
  vRegion (sc := none) (sh := SH) (F := F_X1_retrace_14_11_51) (k := 26) (bs := bk_X1_retrace) (r := (x, M')) (C := fun t lv st M => if t = 3 then vCt [17, 14, 0, 54, 1] (un1 c3) lv st M else if t = 6 then vCt [0, 0, 0, 0, 0] (un0 c6) lv st M else none) ok_X1_retrace fs_X1_retrace_14_11_51 (fun t lv st M h => by
    split at h
    · rename_i e; subst e; exact vCt_s (un1_s h3) h
    split at h
    · rename_i e; subst e; exact vCt_s (un0_s h6) h
    cases h) 9 3 (am_wr [17, 14, 0, 54, 1] [v4]) [] M h
noncomputable def XB_X1_retrace_14_11_51_6 (M : am_M) : am_Rs :=
  some (0, M)
set_option maxRecDepth 100000 in
theorem rs_X1_retrace_14_11_51_6 {x : Int} {M' : am_M} (M : am_M) (h : XB_X1_retrace_14_11_51_6 M = some (x, M')) : am_R none 26 bk_X1_retrace 6 (am_wr [0, 0, 0, 0, 0] []) [] SH M (am_rv (am_rk 26) x) SH M' :=
  vRegion (sc := none) (sh := SH) (F := F_X1_retrace_14_11_51) (k := 26) (bs := bk_X1_retrace) (r := (x, M')) (C := fun t lv st M => none) ok_X1_retrace fs_X1_retrace_14_11_51 (fun t lv st M h => by
    cases h) 9 6 (am_wr [0, 0, 0, 0, 0] []) [] M h
noncomputable def XB_X1_retrace_14_11_51_e (c3 : Int → am_M → am_Rs) (v2 : Int) (M : am_M) : am_Rs :=
  c3 0 (am_up M 51 0 v2)
set_option maxRecDepth 100000 in
theorem rs_X1_retrace_14_11_51_e {x : Int} {M' : am_M} {c3 : Int → am_M → am_Rs} (h3 : ∀ w4 M, c3 w4 M = some (x, M') → am_R none 26 bk_X1_retrace 3 (am_wr [17, 14, 0, 54, 1] [w4]) [] SH M (am_rv (am_rk 26) x) SH M') (v2 : Int) (M : am_M) (h : XB_X1_retrace_14_11_51_e c3 v2 M = some (x, M')) : am_R none 26 bk_X1_retrace 0 (am_ent 5 [.inr (.inr (some 14)), .inr (.inr (some 11)), .inl v2, .inr (.inr (some 51))]) [] SH M (am_rv (am_rk 26) x) SH M' :=
  vRegion (sc := none) (sh := SH) (F := F_X1_retrace_14_11_51) (k := 26) (bs := bk_X1_retrace) (r := (x, M')) (C := fun t lv st M => if t = 3 then vCt [17, 14, 0, 54, 1] (un1 c3) lv st M else none) ok_X1_retrace fs_X1_retrace_14_11_51 (fun t lv st M h => by
    split at h
    · rename_i e; subst e; exact vCt_s (un1_s h3) h
    cases h) 9 0 (am_ent 5 [.inr (.inr (some 14)), .inr (.inr (some 11)), .inl v2, .inr (.inr (some 51))]) [] M h
noncomputable def XL_X1_retrace_14_11_51_3 (k6 : am_M → am_Rs) : Nat → Int → am_M → am_Rs
  | 0, _, _ => none
  | n + 1, v4, M => XB_X1_retrace_14_11_51_3 (XL_X1_retrace_14_11_51_3 k6 n) k6 v4 M
theorem ls_X1_retrace_14_11_51_3 {x : Int} {M' : am_M} {k6 : am_M → am_Rs} (hk6 : ∀ M, k6 M = some (x, M') → am_R none 26 bk_X1_retrace 6 (am_wr [0, 0, 0, 0, 0] []) [] SH M (am_rv (am_rk 26) x) SH M') : ∀ (n : Nat) (v4 : Int) (M : am_M), XL_X1_retrace_14_11_51_3 k6 n v4 M = some (x, M') → am_R none 26 bk_X1_retrace 3 (am_wr [17, 14, 0, 54, 1] [v4]) [] SH M (am_rv (am_rk 26) x) SH M'
  | 0, v4, M, h => by cases h
  | n + 1, v4, M, h => rs_X1_retrace_14_11_51_3 (ls_X1_retrace_14_11_51_3 hk6 n) hk6 v4 M h
noncomputable def X_X1_retrace_14_11_51 (v2 : Int) (M : am_M) : am_Rs := XB_X1_retrace_14_11_51_e (XL_X1_retrace_14_11_51_3 (XB_X1_retrace_14_11_51_6) 1000) v2 M
theorem dc_X1_retrace_14_11_51 (v2 : Int) (M M' : am_M) (x : Int) (h : X_X1_retrace_14_11_51 v2 M = some (x, M')) : am_Calls 26 [.inr (.inr (some 14)), .inr (.inr (some 11)), .inl v2, .inr (.inr (some 51))] SH M (am_rv (am_rk 26) x) SH M' :=
  am_enter pn_X1_retrace ml_X1_retrace rfl (Nat.le_of_ble_eq_true rfl) ⟨Nat.le_refl _, Nat.le_refl _⟩ (rs_X1_retrace_14_11_51_e (ls_X1_retrace_14_11_51_3 (rs_X1_retrace_14_11_51_6) 1000) v2 M h)
noncomputable def X_X3_trailAt_47 (v1 : Int) (M : am_M) : am_Rs :=
  if wI v1 < 0 then
   some (0, M)
  else if 40 < wI v1 then
   some (0, M)
  else if 0 ≤ wI v1 ∧ wI v1 < 41 then
  some (M 51 (wI v1).toNat, M)
  else none
set_option maxRecDepth 100000 in
theorem dc_X3_trailAt_47 (v1 : Int) (M M' : am_M) (x : Int) (h : X_X3_trailAt_47 v1 M = some (x, M')) : am_Calls 48 [.inr (.inr (some 47)), .inl v1] SH M (am_rv (am_rk 48) x) SH M' :=
  vCall (F := F_none) (C := fun _ _ _ _ => none) (fu := 7) ok_X3_trailAt pn_X3_trailAt ml_X3_trailAt rfl (Nat.le_of_ble_eq_true rfl) fs_none (fun _ _ _ _ h => by cases h) h
noncomputable def F_X3_fits_47_1 : Nat → List am_V → am_M → am_Rs := fun k as M => if k = 39 then (match as with
  | [.inl a0, .inl a1] => X_X2_crownOf a0 a1 M
  | _ => none) else if k = 48 then (match as with
  | [.inr (.inr (some 47)), .inl a1] => X_X3_trailAt_47 a1 M
  | _ => none) else if k = 83 then (match as with
  | [.inr (.inr (some 1)), .inl a1] => X_X6_sizeOf_1 a1 M
  | _ => none) else if k = 88 then (match as with
  | [.inr (.inr (some 1)), .inl a1, .inl a2] => X_X6_get_1 a1 a2 M
  | _ => none) else none
theorem fs_X3_fits_47_1 : am_FS SH F_X3_fits_47_1 := by
  intro k as M x M' h
  unfold F_X3_fits_47_1 at h
  split at h
  · rename_i hk; subst hk
    split at h
    · exact dc_X2_crownOf _ _ _ _ _ h
    · cases h
  split at h
  · rename_i hk; subst hk
    split at h
    · exact dc_X3_trailAt_47 _ _ _ _ h
    · cases h
  split at h
  · rename_i hk; subst hk
    split at h
    · exact dc_X6_sizeOf_1 _ _ _ _ h
    · cases h
  split at h
  · rename_i hk; subst hk
    split at h
    · exact dc_X6_get_1 _ _ _ _ _ h
    · cases h
  cases h
noncomputable def XB_X3_fits_47_1_1 (c1 : Int → Int → am_M → am_Rs) (c5 : am_M → am_Rs) (v2 v3 : Int) (M : am_M) : am_Rs :=
  (X_X6_sizeOf_1 v2 M).bind fun z1 =>
  if wI v3 < wI z1.1 then
   (X_X6_get_1 v2 v3 z1.2).bind fun z2 =>
   (X_X3_trailAt_47 z2.1 z2.2).bind fun z3 =>
   (X_X6_get_1 v2 (v3 + 1) z3.2).bind fun z4 =>
   (X_X2_crownOf z4.1 z3.1 z4.2).bind fun z5 =>
   (X_X6_get_1 v2 (v3 + 2) z5.2).bind fun z6 =>
   if wI z5.1 = wI z6.1 then
    c1 v2 (v3 + 3) z6.2
   else some (0, z6.2)
  else c5 z1.2
set_option maxRecDepth 100000 in
theorem rs_X3_fits_47_1_1 {x : Int} {M' : am_M} {c1 : Int → Int → am_M → am_Rs} {c5 : am_M → am_Rs} (h1 : ∀ w2 w3 M, c1 w2 w3 M = some (x, M') → am_R none 47 bk_X3_fits 1 (am_wr [50, 4, 1, 1, 0] [w2, w3]) [] SH M (am_rv (am_rk 47) x) SH M') (h5 : ∀ M, c5 M = some (x, M') → am_R none 47 bk_X3_fits 5 (am_wr [0, 0, 0, 0, 0] []) [] SH M (am_rv (am_rk 47) x) SH M') (v2 v3 : Int) (M : am_M) (h : XB_X3_fits_47_1_1 c1 c5 v2 v3 M = some (x, M')) : am_R none 47 bk_X3_fits 1 (am_wr [50, 4, 1, 1, 0] [v2, v3]) [] SH M (am_rv (am_rk 47) x) SH M' :=
  vRegion (sc := none) (sh := SH) (F := F_X3_fits_47_1) (k := 47) (bs := bk_X3_fits) (r := (x, M')) (C := fun t lv st M => if t = 1 then vCt [50, 4, 1, 1, 0] (un2 c1) lv st M else if t = 5 then vCt [0, 0, 0, 0, 0] (un0 c5) lv st M else none) ok_X3_fits fs_X3_fits_47_1 (fun t lv st M h => by
    split at h
    · rename_i e; subst e; exact vCt_s (un2_s h1) h
    split at h
    · rename_i e; subst e; exact vCt_s (un0_s h5) h
    cases h) 8 1 (am_wr [50, 4, 1, 1, 0] [v2, v3]) [] M h
noncomputable def XB_X3_fits_47_1_5 (M : am_M) : am_Rs :=
  some (1, M)
set_option maxRecDepth 100000 in
theorem rs_X3_fits_47_1_5 {x : Int} {M' : am_M} (M : am_M) (h : XB_X3_fits_47_1_5 M = some (x, M')) : am_R none 47 bk_X3_fits 5 (am_wr [0, 0, 0, 0, 0] []) [] SH M (am_rv (am_rk 47) x) SH M' :=
  vRegion (sc := none) (sh := SH) (F := F_X3_fits_47_1) (k := 47) (bs := bk_X3_fits) (r := (x, M')) (C := fun t lv st M => none) ok_X3_fits fs_X3_fits_47_1 (fun t lv st M h => by
    cases h) 8 5 (am_wr [0, 0, 0, 0, 0] []) [] M h
noncomputable def XB_X3_fits_47_1_e (c1 : Int → Int → am_M → am_Rs) (v2 : Int) (M : am_M) : am_Rs :=
  c1 v2 0 M
set_option maxRecDepth 100000 in
theorem rs_X3_fits_47_1_e {x : Int} {M' : am_M} {c1 : Int → Int → am_M → am_Rs} (h1 : ∀ w2 w3 M, c1 w2 w3 M = some (x, M') → am_R none 47 bk_X3_fits 1 (am_wr [50, 4, 1, 1, 0] [w2, w3]) [] SH M (am_rv (am_rk 47) x) SH M') (v2 : Int) (M : am_M) (h : XB_X3_fits_47_1_e c1 v2 M = some (x, M')) : am_R none 47 bk_X3_fits 0 (am_ent 5 [.inr (.inr (some 47)), .inr (.inr (some 1)), .inl v2]) [] SH M (am_rv (am_rk 47) x) SH M' :=
  vRegion (sc := none) (sh := SH) (F := F_X3_fits_47_1) (k := 47) (bs := bk_X3_fits) (r := (x, M')) (C := fun t lv st M => if t = 1 then vCt [50, 4, 1, 1, 0] (un2 c1) lv st M else none) ok_X3_fits fs_X3_fits_47_1 (fun t lv st M h => by
    split at h
    · rename_i e; subst e; exact vCt_s (un2_s h1) h
    cases h) 8 0 (am_ent 5 [.inr (.inr (some 47)), .inr (.inr (some 1)), .inl v2]) [] M h
noncomputable def XL_X3_fits_47_1_1 (k5 : am_M → am_Rs) : Nat → Int → Int → am_M → am_Rs
  | 0, _, _, _ => none
  | n + 1, v2, v3, M => XB_X3_fits_47_1_1 (XL_X3_fits_47_1_1 k5 n) k5 v2 v3 M
theorem ls_X3_fits_47_1_1 {x : Int} {M' : am_M} {k5 : am_M → am_Rs} (hk5 : ∀ M, k5 M = some (x, M') → am_R none 47 bk_X3_fits 5 (am_wr [0, 0, 0, 0, 0] []) [] SH M (am_rv (am_rk 47) x) SH M') : ∀ (n : Nat) (v2 v3 : Int) (M : am_M), XL_X3_fits_47_1_1 k5 n v2 v3 M = some (x, M') → am_R none 47 bk_X3_fits 1 (am_wr [50, 4, 1, 1, 0] [v2, v3]) [] SH M (am_rv (am_rk 47) x) SH M'
  | 0, v2, v3, M, h => by cases h
  | n + 1, v2, v3, M, h => rs_X3_fits_47_1_1 (ls_X3_fits_47_1_1 hk5 n) hk5 v2 v3 M h
noncomputable def X_X3_fits_47_1 (v2 : Int) (M : am_M) : am_Rs := XB_X3_fits_47_1_e (XL_X3_fits_47_1_1 (XB_X3_fits_47_1_5) 1000) v2 M
theorem dc_X3_fits_47_1 (v2 : Int) (M M' : am_M) (x : Int) (h : X_X3_fits_47_1 v2 M = some (x, M')) : am_Calls 47 [.inr (.inr (some 47)), .inr (.inr (some 1)), .inl v2] SH M (am_rv (am_rk 47) x) SH M' :=
  am_enter pn_X3_fits ml_X3_fits rfl (Nat.le_of_ble_eq_true rfl) ⟨Nat.le_refl _, Nat.le_refl _⟩ (rs_X3_fits_47_1_e (ls_X3_fits_47_1_1 (rs_X3_fits_47_1_5) 1000) v2 M h)
noncomputable def F_X3_startsThatFit_47_1 : Nat → List am_V → am_M → am_Rs := fun k as M => if k = 26 then (match as with
  | [.inr (.inr (some 14)), .inr (.inr (some 11)), .inl a2, .inr (.inr (some 51))] => X_X1_retrace_14_11_51 a2 M
  | _ => none) else if k = 47 then (match as with
  | [.inr (.inr (some 47)), .inr (.inr (some 1)), .inl a2] => X_X3_fits_47_1 a2 M
  | _ => none) else none
theorem fs_X3_startsThatFit_47_1 : am_FS SH F_X3_startsThatFit_47_1 := by
  intro k as M x M' h
  unfold F_X3_startsThatFit_47_1 at h
  split at h
  · rename_i hk; subst hk
    split at h
    · exact dc_X1_retrace_14_11_51 _ _ _ _ h
    · cases h
  split at h
  · rename_i hk; subst hk
    split at h
    · exact dc_X3_fits_47_1 _ _ _ _ h
    · cases h
  cases h
noncomputable def XB_X3_startsThatFit_47_1_1 (c1 : Int → Int → Int → am_M → am_Rs) (c5 : Int → am_M → am_Rs) (v2 v3 v4 : Int) (M : am_M) : am_Rs :=
  if wI (M 11 0) < wI v4 then
   c5 v3 M
  else (X_X1_retrace_14_11_51 v4 M).bind fun z1 =>
  (X_X3_fits_47_1 v2 z1.2).bind fun z2 =>
  if wI z2.1 = 0 then
   c1 v2 v3 (v4 + 1) z2.2
  else c1 v2 (b_or_ v3 (b_shl_ 1 v4)) (v4 + 1) z2.2
set_option maxRecDepth 100000 in
theorem rs_X3_startsThatFit_47_1_1 {x : Int} {M' : am_M} {c1 : Int → Int → Int → am_M → am_Rs} {c5 : Int → am_M → am_Rs} (h1 : ∀ w2 w3 w4 M, c1 w2 w3 w4 M = some (x, M') → am_R none 46 bk_X3_startsThatFit 1 (am_wr [50, 4, 1, 1, 1] [w2, w3, w4]) [] SH M (am_rv (am_rk 46) x) SH M') (h5 : ∀ w3 M, c5 w3 M = some (x, M') → am_R none 46 bk_X3_startsThatFit 5 (am_wr [0, 0, 0, 1, 0] [w3]) [] SH M (am_rv (am_rk 46) x) SH M') (v2 v3 v4 : Int) (M : am_M) (h : XB_X3_startsThatFit_47_1_1 c1 c5 v2 v3 v4 M = some (x, M')) : am_R none 46 bk_X3_startsThatFit 1 (am_wr [50, 4, 1, 1, 1] [v2, v3, v4]) [] SH M (am_rv (am_rk 46) x) SH M' :=
  vRegion (sc := none) (sh := SH) (F := F_X3_startsThatFit_47_1) (k := 46) (bs := bk_X3_startsThatFit) (r := (x, M')) (C := fun t lv st M => if t = 1 then vCt [50, 4, 1, 1, 1] (un3 c1) lv st M else if t = 5 then vCt [0, 0, 0, 1, 0] (un1 c5) lv st M else none) ok_X3_startsThatFit fs_X3_startsThatFit_47_1 (fun t lv st M h => by
    split at h
    · rename_i e; subst e; exact vCt_s (un3_s h1) h
    split at h
    · rename_i e; subst e; exact vCt_s (un1_s h5) h
    cases h) 8 1 (am_wr [50, 4, 1, 1, 1] [v2, v3, v4]) [] M h
noncomputable def XB_X3_startsThatFit_47_1_5 (v3 : Int) (M : am_M) : am_Rs :=
  some (v3, M)
set_option maxRecDepth 100000 in
theorem rs_X3_startsThatFit_47_1_5 {x : Int} {M' : am_M} (v3 : Int) (M : am_M) (h : XB_X3_startsThatFit_47_1_5 v3 M = some (x, M')) : am_R none 46 bk_X3_startsThatFit 5 (am_wr [0, 0, 0, 1, 0] [v3]) [] SH M (am_rv (am_rk 46) x) SH M' :=
  vRegion (sc := none) (sh := SH) (F := F_X3_startsThatFit_47_1) (k := 46) (bs := bk_X3_startsThatFit) (r := (x, M')) (C := fun t lv st M => none) ok_X3_startsThatFit fs_X3_startsThatFit_47_1 (fun t lv st M h => by
    cases h) 8 5 (am_wr [0, 0, 0, 1, 0] [v3]) [] M h
noncomputable def XB_X3_startsThatFit_47_1_e (c1 : Int → Int → Int → am_M → am_Rs) (v2 : Int) (M : am_M) : am_Rs :=
  c1 v2 0 0 M
set_option maxRecDepth 100000 in
theorem rs_X3_startsThatFit_47_1_e {x : Int} {M' : am_M} {c1 : Int → Int → Int → am_M → am_Rs} (h1 : ∀ w2 w3 w4 M, c1 w2 w3 w4 M = some (x, M') → am_R none 46 bk_X3_startsThatFit 1 (am_wr [50, 4, 1, 1, 1] [w2, w3, w4]) [] SH M (am_rv (am_rk 46) x) SH M') (v2 : Int) (M : am_M) (h : XB_X3_startsThatFit_47_1_e c1 v2 M = some (x, M')) : am_R none 46 bk_X3_startsThatFit 0 (am_ent 5 [.inr (.inr (some 47)), .inr (.inr (some 1)), .inl v2]) [] SH M (am_rv (am_rk 46) x) SH M' :=
  vRegion (sc := none) (sh := SH) (F := F_X3_startsThatFit_47_1) (k := 46) (bs := bk_X3_startsThatFit) (r := (x, M')) (C := fun t lv st M => if t = 1 then vCt [50, 4, 1, 1, 1] (un3 c1) lv st M else none) ok_X3_startsThatFit fs_X3_startsThatFit_47_1 (fun t lv st M h => by
    split at h
    · rename_i e; subst e; exact vCt_s (un3_s h1) h
    cases h) 8 0 (am_ent 5 [.inr (.inr (some 47)), .inr (.inr (some 1)), .inl v2]) [] M h
noncomputable def XL_X3_startsThatFit_47_1_1 (k5 : Int → am_M → am_Rs) : Nat → Int → Int → Int → am_M → am_Rs
  | 0, _, _, _, _ => none
  | n + 1, v2, v3, v4, M => XB_X3_startsThatFit_47_1_1 (XL_X3_startsThatFit_47_1_1 k5 n) k5 v2 v3 v4 M
theorem ls_X3_startsThatFit_47_1_1 {x : Int} {M' : am_M} {k5 : Int → am_M → am_Rs} (hk5 : ∀ w3 M, k5 w3 M = some (x, M') → am_R none 46 bk_X3_startsThatFit 5 (am_wr [0, 0, 0, 1, 0] [w3]) [] SH M (am_rv (am_rk 46) x) SH M') : ∀ (n : Nat) (v2 v3 v4 : Int) (M : am_M), XL_X3_startsThatFit_47_1_1 k5 n v2 v3 v4 M = some (x, M') → am_R none 46 bk_X3_startsThatFit 1 (am_wr [50, 4, 1, 1, 1] [v2, v3, v4]) [] SH M (am_rv (am_rk 46) x) SH M'
  | 0, v2, v3, v4, M, h => by cases h
  | n + 1, v2, v3, v4, M, h => rs_X3_startsThatFit_47_1_1 (ls_X3_startsThatFit_47_1_1 hk5 n) hk5 v2 v3 v4 M h
noncomputable def X_X3_startsThatFit_47_1 (v2 : Int) (M : am_M) : am_Rs := XB_X3_startsThatFit_47_1_e (XL_X3_startsThatFit_47_1_1 (XB_X3_startsThatFit_47_1_5) 1000) v2 M
theorem dc_X3_startsThatFit_47_1 (v2 : Int) (M M' : am_M) (x : Int) (h : X_X3_startsThatFit_47_1 v2 M = some (x, M')) : am_Calls 46 [.inr (.inr (some 47)), .inr (.inr (some 1)), .inl v2] SH M (am_rv (am_rk 46) x) SH M' :=
  am_enter pn_X3_startsThatFit ml_X3_startsThatFit rfl (Nat.le_of_ble_eq_true rfl) ⟨Nat.le_refl _, Nat.le_refl _⟩ (rs_X3_startsThatFit_47_1_e (ls_X3_startsThatFit_47_1_1 (rs_X3_startsThatFit_47_1_5) 1000) v2 M h)
noncomputable def F_X8_books_0 : Nat → List am_V → am_M → am_Rs := fun k as M => if k = 45 then (match as with
  | [.inr (.inr (some 47)), .inr (.inr (some 1)), .inl a2] => X_X3_areBooks_47_1 a2 M
  | _ => none) else if k = 46 then (match as with
  | [.inr (.inr (some 47)), .inr (.inr (some 1)), .inl a2] => X_X3_startsThatFit_47_1 a2 M
  | _ => none) else if k = 81 then (match as with
  | [.inr (.inr (some 1)), .inl a1] => X_X6_isNumber_1 a1 M
  | _ => none) else if k = 82 then (match as with
  | [.inr (.inr (some 1)), .inl a1] => X_X6_isThere_1 a1 M
  | _ => none) else if k = 83 then (match as with
  | [.inr (.inr (some 1)), .inl a1] => X_X6_sizeOf_1 a1 M
  | _ => none) else if k = 154 then (match as with
  | [.inr (.inr (some 0)), .inl a1] => X_X8_find_0 a1 M
  | _ => none) else if k = 158 then (match as with
  | [.inr (.inr (some 0))] => X_X8_hasNoLand_0 M
  | _ => none) else none
theorem fs_X8_books_0 : am_FS SH F_X8_books_0 := by
  intro k as M x M' h
  unfold F_X8_books_0 at h
  split at h
  · rename_i hk; subst hk
    split at h
    · exact dc_X3_areBooks_47_1 _ _ _ _ h
    · cases h
  split at h
  · rename_i hk; subst hk
    split at h
    · exact dc_X3_startsThatFit_47_1 _ _ _ _ h
    · cases h
  split at h
  · rename_i hk; subst hk
    split at h
    · exact dc_X6_isNumber_1 _ _ _ _ h
    · cases h
  split at h
  · rename_i hk; subst hk
    split at h
    · exact dc_X6_isThere_1 _ _ _ _ h
    · cases h
  split at h
  · rename_i hk; subst hk
    split at h
    · exact dc_X6_sizeOf_1 _ _ _ _ h
    · cases h
  split at h
  · rename_i hk; subst hk
    split at h
    · exact dc_X8_find_0 _ _ _ _ h
    · cases h
  split at h
  · rename_i hk; subst hk
    split at h
    · exact dc_X8_hasNoLand_0 _ _ _ h
    · cases h
  cases h
noncomputable def X_X8_books_0 (v1 : Int) (M : am_M) : am_Rs :=
  (X_X6_isNumber_1 v1 M).bind fun z1 =>
  if wI z1.1 = 0 then
   some ((-1), z1.2)
  else (X_X8_hasNoLand_0 z1.2).bind fun z2 =>
  if wI z2.1 = 0 then
   (X_X6_isThere_1 v1 z2.2).bind fun z3 =>
   if wI z3.1 = 0 then
    (X_X8_find_0 1 z3.2).bind fun z4 =>
    some (z4.1, z4.2)
   else (X_X6_sizeOf_1 v1 z3.2).bind fun z4 =>
   if wI ((wI z4.1).tmod 3) = 0 then
    (X_X3_areBooks_47_1 v1 z4.2).bind fun z5 =>
    if wI z5.1 = 0 then
     (X_X8_find_0 3 z5.2).bind fun z6 =>
     some (z6.1, z6.2)
    else (X_X3_startsThatFit_47_1 v1 z5.2).bind fun z6 =>
    some (z6.1, z6.2)
   else (X_X8_find_0 5 z4.2).bind fun z5 =>
   some (z5.1, z5.2)
  else some ((-4), z2.2)
set_option maxRecDepth 100000 in
theorem dc_X8_books_0 (v1 : Int) (M M' : am_M) (x : Int) (h : X_X8_books_0 v1 M = some (x, M')) : am_Calls 144 [.inr (.inr (some 0)), .inl v1] SH M (am_rv (am_rk 144) x) SH M' :=
  vCall (F := F_X8_books_0) (C := fun _ _ _ _ => none) (fu := 13) ok_X8_books pn_X8_books ml_X8_books rfl (Nat.le_of_ble_eq_true rfl) fs_X8_books_0 (fun _ _ _ _ h => by cases h) h
noncomputable def X_X2_takeFrom_48_11 (M : am_M) : am_Rs :=
  some (0, (am_cpy (am_cpy (am_up M 48 0 (M 11 0)) 12 49 0 0 12) 13 50 0 0 12))
set_option maxRecDepth 100000 in
theorem dc_X2_takeFrom_48_11 (M M' : am_M) (x : Int) (h : X_X2_takeFrom_48_11 M = some (x, M')) : am_Calls 31 [.inr (.inr (some 48)), .inr (.inr (some 11))] SH M (am_rv (am_rk 31) x) SH M' :=
  vCall (F := F_none) (C := fun _ _ _ _ => none) (fu := 3) ok_X2_takeFrom pn_X2_takeFrom ml_X2_takeFrom rfl (Nat.le_of_ble_eq_true rfl) fs_none (fun _ _ _ _ h => by cases h) h
noncomputable def X_X2_has_48 (v1 : Int) (M : am_M) : am_Rs :=
  if wI v1 < 0 then
   some (0, M)
  else if wI v1 < wI (M 48 0) then
   some (1, M)
  else some (0, M)
set_option maxRecDepth 100000 in
theorem dc_X2_has_48 (v1 : Int) (M M' : am_M) (x : Int) (h : X_X2_has_48 v1 M = some (x, M')) : am_Calls 33 [.inr (.inr (some 48)), .inl v1] SH M (am_rv (am_rk 33) x) SH M' :=
  vCall (F := F_none) (C := fun _ _ _ _ => none) (fu := 7) ok_X2_has pn_X2_has ml_X2_has rfl (Nat.le_of_ble_eq_true rfl) fs_none (fun _ _ _ _ h => by cases h) h
noncomputable def F_X2_setKind_48 : Nat → List am_V → am_M → am_Rs := fun k as M => if k = 33 then (match as with
  | [.inr (.inr (some 48)), .inl a1] => X_X2_has_48 a1 M
  | _ => none) else none
theorem fs_X2_setKind_48 : am_FS SH F_X2_setKind_48 := by
  intro k as M x M' h
  unfold F_X2_setKind_48 at h
  split at h
  · rename_i hk; subst hk
    split at h
    · exact dc_X2_has_48 _ _ _ _ h
    · cases h
  cases h
noncomputable def X_X2_setKind_48 (v1 v2 : Int) (M : am_M) : am_Rs :=
  (X_X2_has_48 v1 M).bind fun z1 =>
  if wI z1.1 = 0 then
   some (0, z1.2)
  else if 0 ≤ wI v1 ∧ wI v1 < 12 then
  some (0, (am_up z1.2 49 (wI v1).toNat v2))
  else none
set_option maxRecDepth 100000 in
theorem dc_X2_setKind_48 (v1 v2 : Int) (M M' : am_M) (x : Int) (h : X_X2_setKind_48 v1 v2 M = some (x, M')) : am_Calls 32 [.inr (.inr (some 48)), .inl v1, .inl v2] SH M (am_rv (am_rk 32) x) SH M' :=
  vCall (F := F_X2_setKind_48) (C := fun _ _ _ _ => none) (fu := 5) ok_X2_setKind pn_X2_setKind ml_X2_setKind rfl (Nat.le_of_ble_eq_true rfl) fs_X2_setKind_48 (fun _ _ _ _ h => by cases h) h
noncomputable def X_X2_rudeness_48 (v1 v2 v3 : Int) (M : am_M) : am_Rs :=
  if wI v2 = 0 then
   some (0, M)
  else if wI v2 < 0 then
   if wI (v1 - 1) < 0 then
    some ((-1), M)
   else if wI (v1 - 1) < wI (M 48 0) then
    if 0 ≤ wI (v1 - 1) ∧ wI (v1 - 1) < 12 then
    if wI (M 49 (wI (v1 - 1)).toNat) = 3 then
      if wI ((wI v3).tmod 2) = 0 then
       if wI (M 49 (wI (v1 - 1)).toNat) = 2 then
        some (2, M)
       else if wI (M 49 (wI (v1 - 1)).toNat) = 5 then
        some (2, M)
       else some (1, M)
      else some ((-1), M)
     else if wI (M 49 (wI (v1 - 1)).toNat) = 2 then
      some (2, M)
     else if wI (M 49 (wI (v1 - 1)).toNat) = 5 then
      some (2, M)
     else some (1, M)
    else none
   else some ((-1), M)
  else if wI v1 < 0 then
   some ((-1), M)
  else if wI v1 < wI (M 48 0) then
   if 0 ≤ wI v1 ∧ wI v1 < 12 then
   if wI (M 49 (wI v1).toNat) = 3 then
     if wI ((wI v3).tmod 2) = 0 then
      if wI (M 49 (wI v1).toNat) = 2 then
       some (2, M)
      else if wI (M 49 (wI v1).toNat) = 5 then
       some (2, M)
      else some (1, M)
     else some ((-1), M)
    else if wI (M 49 (wI v1).toNat) = 2 then
     some (2, M)
    else if wI (M 49 (wI v1).toNat) = 5 then
     some (2, M)
    else some (1, M)
   else none
  else some ((-1), M)
set_option maxRecDepth 100000 in
theorem dc_X2_rudeness_48 (v1 v2 v3 : Int) (M M' : am_M) (x : Int) (h : X_X2_rudeness_48 v1 v2 v3 M = some (x, M')) : am_Calls 41 [.inr (.inr (some 48)), .inl v1, .inl v2, .inl v3] SH M (am_rv (am_rk 41) x) SH M' :=
  vCall (F := F_none) (C := fun _ _ _ _ => none) (fu := 18) ok_X2_rudeness pn_X2_rudeness ml_X2_rudeness rfl (Nat.le_of_ble_eq_true rfl) fs_none (fun _ _ _ _ h => by cases h) h
noncomputable def F_X2_borderAfter_48 : Nat → List am_V → am_M → am_Rs := fun k as M => if k = 41 then (match as with
  | [.inr (.inr (some 48)), .inl a1, .inl a2, .inl a3] => X_X2_rudeness_48 a1 a2 a3 M
  | _ => none) else if k = 272 then (match as with
  | [.inl a0, .inl a1] => X_J6_compare_7cf53 a0 a1 M
  | _ => none) else none
theorem fs_X2_borderAfter_48 : am_FS SH F_X2_borderAfter_48 := by
  intro k as M x M' h
  unfold F_X2_borderAfter_48 at h
  split at h
  · rename_i hk; subst hk
    split at h
    · exact dc_X2_rudeness_48 _ _ _ _ _ _ h
    · cases h
  split at h
  · rename_i hk; subst hk
    split at h
    · exact dc_J6_compare_7cf53 _ _ _ _ _ h
    · cases h
  cases h
noncomputable def X_X2_borderAfter_48 (v1 v2 v3 v4 : Int) (M : am_M) : am_Rs :=
  (X_J6_compare_7cf53 v4 v3 M).bind fun z1 =>
  (X_X2_rudeness_48 v1 z1.1 v2 z1.2).bind fun z2 =>
  if wI z2.1 = (-1) then
   some (v1, z2.2)
  else if wI (if 0 ≤ wI (v3 - v4) then v3 - v4 else 0 - (v3 - v4)) < wI z2.1 then
   some (v1, z2.2)
  else some (v1 + z1.1, z2.2)
set_option maxRecDepth 100000 in
theorem dc_X2_borderAfter_48 (v1 v2 v3 v4 : Int) (M M' : am_M) (x : Int) (h : X_X2_borderAfter_48 v1 v2 v3 v4 M = some (x, M')) : am_Calls 42 [.inr (.inr (some 48)), .inl v1, .inl v2, .inl v3, .inl v4] SH M (am_rv (am_rk 42) x) SH M' :=
  vCall (F := F_X2_borderAfter_48) (C := fun _ _ _ _ => none) (fu := 10) ok_X2_borderAfter pn_X2_borderAfter ml_X2_borderAfter rfl (Nat.le_of_ble_eq_true rfl) fs_X2_borderAfter_48 (fun _ _ _ _ h => by cases h) h
noncomputable def F_X1_retrace_14_48_51 : Nat → List am_V → am_M → am_Rs := fun k as M => if k = 42 then (match as with
  | [.inr (.inr (some 48)), .inl a1, .inl a2, .inl a3, .inl a4] => X_X2_borderAfter_48 a1 a2 a3 a4 M
  | _ => none) else none
theorem fs_X1_retrace_14_48_51 : am_FS SH F_X1_retrace_14_48_51 := by
  intro k as M x M' h
  unfold F_X1_retrace_14_48_51 at h
  split at h
  · rename_i hk; subst hk
    split at h
    · exact dc_X2_borderAfter_48 _ _ _ _ _ _ _ h
    · cases h
  cases h
noncomputable def XB_X1_retrace_14_48_51_3 (c3 : Int → am_M → am_Rs) (c6 : am_M → am_Rs) (v4 : Int) (M : am_M) : am_Rs :=
  if wI v4 < wI (M 14 0) then
   if wI v4 < 40 then
    if 0 ≤ wI v4 ∧ wI v4 < 41 then
    if 0 ≤ wI v4 ∧ wI v4 < 40 then
     if 0 ≤ wI v4 ∧ wI v4 < 40 then
      (X_X2_borderAfter_48 (M 51 (wI v4).toNat) v4 (M 15 (wI v4).toNat) (M 16 (wI v4).toNat) M).bind fun z1 =>
       if 0 ≤ wI (v4 + 1) ∧ wI (v4 + 1) < 41 then
       c3 (v4 + 1) (am_up z1.2 51 (wI (v4 + 1)).toNat z1.1)
       else none
      else none
     else none
    else none
   else c6 M
  else c6 M
set_option maxRecDepth 100000 in
theorem rs_X1_retrace_14_48_51_3 {x : Int} {M' : am_M} {c3 : Int → am_M → am_Rs} {c6 : am_M → am_Rs} (h3 : ∀ w4 M, c3 w4 M = some (x, M') → am_R none 26 bk_X1_retrace 3 (am_wr [17, 51, 0, 54, 1] [w4]) [] SH M (am_rv (am_rk 26) x) SH M') (h6 : ∀ M, c6 M = some (x, M') → am_R none 26 bk_X1_retrace 6 (am_wr [0, 0, 0, 0, 0] []) [] SH M (am_rv (am_rk 26) x) SH M') (v4 : Int) (M : am_M) (h : XB_X1_retrace_14_48_51_3 c3 c6 v4 M = some (x, M')) : am_R none 26 bk_X1_retrace 3 (am_wr [17, 51, 0, 54, 1] [v4]) [] SH M (am_rv (am_rk 26) x) SH M' :=
  vRegion (sc := none) (sh := SH) (F := F_X1_retrace_14_48_51) (k := 26) (bs := bk_X1_retrace) (r := (x, M')) (C := fun t lv st M => if t = 3 then vCt [17, 51, 0, 54, 1] (un1 c3) lv st M else if t = 6 then vCt [0, 0, 0, 0, 0] (un0 c6) lv st M else none) ok_X1_retrace fs_X1_retrace_14_48_51 (fun t lv st M h => by
    split at h
    · rename_i e; subst e; exact vCt_s (un1_s h3) h
    split at h
    · rename_i e; subst e; exact vCt_s (un0_s h6) h
    cases h) 9 3 (am_wr [17, 51, 0, 54, 1] [v4]) [] M h
noncomputable def XB_X1_retrace_14_48_51_6 (M : am_M) : am_Rs :=
  some (0, M)
set_option maxRecDepth 100000 in
theorem rs_X1_retrace_14_48_51_6 {x : Int} {M' : am_M} (M : am_M) (h : XB_X1_retrace_14_48_51_6 M = some (x, M')) : am_R none 26 bk_X1_retrace 6 (am_wr [0, 0, 0, 0, 0] []) [] SH M (am_rv (am_rk 26) x) SH M' :=
  vRegion (sc := none) (sh := SH) (F := F_X1_retrace_14_48_51) (k := 26) (bs := bk_X1_retrace) (r := (x, M')) (C := fun t lv st M => none) ok_X1_retrace fs_X1_retrace_14_48_51 (fun t lv st M h => by
    cases h) 9 6 (am_wr [0, 0, 0, 0, 0] []) [] M h
noncomputable def XB_X1_retrace_14_48_51_e (c3 : Int → am_M → am_Rs) (v2 : Int) (M : am_M) : am_Rs :=
  c3 0 (am_up M 51 0 v2)
set_option maxRecDepth 100000 in
theorem rs_X1_retrace_14_48_51_e {x : Int} {M' : am_M} {c3 : Int → am_M → am_Rs} (h3 : ∀ w4 M, c3 w4 M = some (x, M') → am_R none 26 bk_X1_retrace 3 (am_wr [17, 51, 0, 54, 1] [w4]) [] SH M (am_rv (am_rk 26) x) SH M') (v2 : Int) (M : am_M) (h : XB_X1_retrace_14_48_51_e c3 v2 M = some (x, M')) : am_R none 26 bk_X1_retrace 0 (am_ent 5 [.inr (.inr (some 14)), .inr (.inr (some 48)), .inl v2, .inr (.inr (some 51))]) [] SH M (am_rv (am_rk 26) x) SH M' :=
  vRegion (sc := none) (sh := SH) (F := F_X1_retrace_14_48_51) (k := 26) (bs := bk_X1_retrace) (r := (x, M')) (C := fun t lv st M => if t = 3 then vCt [17, 51, 0, 54, 1] (un1 c3) lv st M else none) ok_X1_retrace fs_X1_retrace_14_48_51 (fun t lv st M h => by
    split at h
    · rename_i e; subst e; exact vCt_s (un1_s h3) h
    cases h) 9 0 (am_ent 5 [.inr (.inr (some 14)), .inr (.inr (some 48)), .inl v2, .inr (.inr (some 51))]) [] M h
noncomputable def XL_X1_retrace_14_48_51_3 (k6 : am_M → am_Rs) : Nat → Int → am_M → am_Rs
  | 0, _, _ => none
  | n + 1, v4, M => XB_X1_retrace_14_48_51_3 (XL_X1_retrace_14_48_51_3 k6 n) k6 v4 M
theorem ls_X1_retrace_14_48_51_3 {x : Int} {M' : am_M} {k6 : am_M → am_Rs} (hk6 : ∀ M, k6 M = some (x, M') → am_R none 26 bk_X1_retrace 6 (am_wr [0, 0, 0, 0, 0] []) [] SH M (am_rv (am_rk 26) x) SH M') : ∀ (n : Nat) (v4 : Int) (M : am_M), XL_X1_retrace_14_48_51_3 k6 n v4 M = some (x, M') → am_R none 26 bk_X1_retrace 3 (am_wr [17, 51, 0, 54, 1] [v4]) [] SH M (am_rv (am_rk 26) x) SH M'
  | 0, v4, M, h => by cases h
  | n + 1, v4, M, h => rs_X1_retrace_14_48_51_3 (ls_X1_retrace_14_48_51_3 hk6 n) hk6 v4 M h
noncomputable def X_X1_retrace_14_48_51 (v2 : Int) (M : am_M) : am_Rs := XB_X1_retrace_14_48_51_e (XL_X1_retrace_14_48_51_3 (XB_X1_retrace_14_48_51_6) 1000) v2 M
theorem dc_X1_retrace_14_48_51 (v2 : Int) (M M' : am_M) (x : Int) (h : X_X1_retrace_14_48_51 v2 M = some (x, M')) : am_Calls 26 [.inr (.inr (some 14)), .inr (.inr (some 48)), .inl v2, .inr (.inr (some 51))] SH M (am_rv (am_rk 26) x) SH M' :=
  am_enter pn_X1_retrace ml_X1_retrace rfl (Nat.le_of_ble_eq_true rfl) ⟨Nat.le_refl _, Nat.le_refl _⟩ (rs_X1_retrace_14_48_51_e (ls_X1_retrace_14_48_51_3 (rs_X1_retrace_14_48_51_6) 1000) v2 M h)
noncomputable def F_X3_kindsThatFit_47 : Nat → List am_V → am_M → am_Rs := fun k as M => if k = 21 then (match as with
  | [.inr (.inr (some 14)), .inl a1] => X_X1_borderAhead_14 a1 M
  | _ => none) else if k = 26 then (match as with
  | [.inr (.inr (some 14)), .inr (.inr (some 48)), .inl a2, .inr (.inr (some 51))] => X_X1_retrace_14_48_51 a2 M
  | _ => none) else if k = 31 then (match as with
  | [.inr (.inr (some 48)), .inr (.inr (some 11))] => X_X2_takeFrom_48_11 M
  | _ => none) else if k = 32 then (match as with
  | [.inr (.inr (some 48)), .inl a1, .inl a2] => X_X2_setKind_48 a1 a2 M
  | _ => none) else if k = 48 then (match as with
  | [.inr (.inr (some 47)), .inl a1] => X_X3_trailAt_47 a1 M
  | _ => none) else none
theorem fs_X3_kindsThatFit_47 : am_FS SH F_X3_kindsThatFit_47 := by
  intro k as M x M' h
  unfold F_X3_kindsThatFit_47 at h
  split at h
  · rename_i hk; subst hk
    split at h
    · exact dc_X1_borderAhead_14 _ _ _ _ h
    · cases h
  split at h
  · rename_i hk; subst hk
    split at h
    · exact dc_X1_retrace_14_48_51 _ _ _ _ h
    · cases h
  split at h
  · rename_i hk; subst hk
    split at h
    · exact dc_X2_takeFrom_48_11 _ _ _ h
    · cases h
  split at h
  · rename_i hk; subst hk
    split at h
    · exact dc_X2_setKind_48 _ _ _ _ _ h
    · cases h
  split at h
  · rename_i hk; subst hk
    split at h
    · exact dc_X3_trailAt_47 _ _ _ _ h
    · cases h
  cases h
noncomputable def XB_X3_kindsThatFit_47_1 (c1 : Int → Int → Int → am_M → am_Rs) (c5 : Int → am_M → am_Rs) (v1 v2 v3 : Int) (M : am_M) : am_Rs :=
  if wI v3 < 6 then
   (X_X2_setKind_48 v1 v3 M).bind fun z1 =>
   (X_X1_borderAhead_14 0 z1.2).bind fun z2 =>
   (X_X1_retrace_14_48_51 z2.1 z2.2).bind fun z3 =>
   (X_X3_trailAt_47 (z3.2 14 0) z3.2).bind fun z4 =>
   if wI z4.1 = wI (z4.2 14 1) then
    c1 v1 (b_or_ v2 (b_shl_ 1 v3)) (v3 + 1) z4.2
   else c1 v1 v2 (v3 + 1) z4.2
  else c5 v2 M
set_option maxRecDepth 100000 in
theorem rs_X3_kindsThatFit_47_1 {x : Int} {M' : am_M} {c1 : Int → Int → Int → am_M → am_Rs} {c5 : Int → am_M → am_Rs} (h1 : ∀ w1 w2 w3 M, c1 w1 w2 w3 M = some (x, M') → am_R none 49 bk_X3_kindsThatFit 1 (am_wr [50, 1, 1, 1] [w1, w2, w3]) [] SH M (am_rv (am_rk 49) x) SH M') (h5 : ∀ w2 M, c5 w2 M = some (x, M') → am_R none 49 bk_X3_kindsThatFit 5 (am_wr [0, 0, 1, 0] [w2]) [] SH M (am_rv (am_rk 49) x) SH M') (v1 v2 v3 : Int) (M : am_M) (h : XB_X3_kindsThatFit_47_1 c1 c5 v1 v2 v3 M = some (x, M')) : am_R none 49 bk_X3_kindsThatFit 1 (am_wr [50, 1, 1, 1] [v1, v2, v3]) [] SH M (am_rv (am_rk 49) x) SH M' :=
  vRegion (sc := none) (sh := SH) (F := F_X3_kindsThatFit_47) (k := 49) (bs := bk_X3_kindsThatFit) (r := (x, M')) (C := fun t lv st M => if t = 1 then vCt [50, 1, 1, 1] (un3 c1) lv st M else if t = 5 then vCt [0, 0, 1, 0] (un1 c5) lv st M else none) ok_X3_kindsThatFit fs_X3_kindsThatFit_47 (fun t lv st M h => by
    split at h
    · rename_i e; subst e; exact vCt_s (un3_s h1) h
    split at h
    · rename_i e; subst e; exact vCt_s (un1_s h5) h
    cases h) 8 1 (am_wr [50, 1, 1, 1] [v1, v2, v3]) [] M h
noncomputable def XB_X3_kindsThatFit_47_5 (v2 : Int) (M : am_M) : am_Rs :=
  some (v2, M)
set_option maxRecDepth 100000 in
theorem rs_X3_kindsThatFit_47_5 {x : Int} {M' : am_M} (v2 : Int) (M : am_M) (h : XB_X3_kindsThatFit_47_5 v2 M = some (x, M')) : am_R none 49 bk_X3_kindsThatFit 5 (am_wr [0, 0, 1, 0] [v2]) [] SH M (am_rv (am_rk 49) x) SH M' :=
  vRegion (sc := none) (sh := SH) (F := F_X3_kindsThatFit_47) (k := 49) (bs := bk_X3_kindsThatFit) (r := (x, M')) (C := fun t lv st M => none) ok_X3_kindsThatFit fs_X3_kindsThatFit_47 (fun t lv st M h => by
    cases h) 8 5 (am_wr [0, 0, 1, 0] [v2]) [] M h
noncomputable def XB_X3_kindsThatFit_47_e (c1 : Int → Int → Int → am_M → am_Rs) (v1 : Int) (M : am_M) : am_Rs :=
  (X_X2_takeFrom_48_11 M).bind fun z1 =>
  c1 v1 0 0 z1.2
set_option maxRecDepth 100000 in
theorem rs_X3_kindsThatFit_47_e {x : Int} {M' : am_M} {c1 : Int → Int → Int → am_M → am_Rs} (h1 : ∀ w1 w2 w3 M, c1 w1 w2 w3 M = some (x, M') → am_R none 49 bk_X3_kindsThatFit 1 (am_wr [50, 1, 1, 1] [w1, w2, w3]) [] SH M (am_rv (am_rk 49) x) SH M') (v1 : Int) (M : am_M) (h : XB_X3_kindsThatFit_47_e c1 v1 M = some (x, M')) : am_R none 49 bk_X3_kindsThatFit 0 (am_ent 4 [.inr (.inr (some 47)), .inl v1]) [] SH M (am_rv (am_rk 49) x) SH M' :=
  vRegion (sc := none) (sh := SH) (F := F_X3_kindsThatFit_47) (k := 49) (bs := bk_X3_kindsThatFit) (r := (x, M')) (C := fun t lv st M => if t = 1 then vCt [50, 1, 1, 1] (un3 c1) lv st M else none) ok_X3_kindsThatFit fs_X3_kindsThatFit_47 (fun t lv st M h => by
    split at h
    · rename_i e; subst e; exact vCt_s (un3_s h1) h
    cases h) 8 0 (am_ent 4 [.inr (.inr (some 47)), .inl v1]) [] M h
noncomputable def XL_X3_kindsThatFit_47_1 (k5 : Int → am_M → am_Rs) : Nat → Int → Int → Int → am_M → am_Rs
  | 0, _, _, _, _ => none
  | n + 1, v1, v2, v3, M => XB_X3_kindsThatFit_47_1 (XL_X3_kindsThatFit_47_1 k5 n) k5 v1 v2 v3 M
theorem ls_X3_kindsThatFit_47_1 {x : Int} {M' : am_M} {k5 : Int → am_M → am_Rs} (hk5 : ∀ w2 M, k5 w2 M = some (x, M') → am_R none 49 bk_X3_kindsThatFit 5 (am_wr [0, 0, 1, 0] [w2]) [] SH M (am_rv (am_rk 49) x) SH M') : ∀ (n : Nat) (v1 v2 v3 : Int) (M : am_M), XL_X3_kindsThatFit_47_1 k5 n v1 v2 v3 M = some (x, M') → am_R none 49 bk_X3_kindsThatFit 1 (am_wr [50, 1, 1, 1] [v1, v2, v3]) [] SH M (am_rv (am_rk 49) x) SH M'
  | 0, v1, v2, v3, M, h => by cases h
  | n + 1, v1, v2, v3, M, h => rs_X3_kindsThatFit_47_1 (ls_X3_kindsThatFit_47_1 hk5 n) hk5 v1 v2 v3 M h
noncomputable def X_X3_kindsThatFit_47 (v1 : Int) (M : am_M) : am_Rs := XB_X3_kindsThatFit_47_e (XL_X3_kindsThatFit_47_1 (XB_X3_kindsThatFit_47_5) 1000) v1 M
theorem dc_X3_kindsThatFit_47 (v1 : Int) (M M' : am_M) (x : Int) (h : X_X3_kindsThatFit_47 v1 M = some (x, M')) : am_Calls 49 [.inr (.inr (some 47)), .inl v1] SH M (am_rv (am_rk 49) x) SH M' :=
  am_enter pn_X3_kindsThatFit ml_X3_kindsThatFit rfl (Nat.le_of_ble_eq_true rfl) ⟨Nat.le_refl _, Nat.le_refl _⟩ (rs_X3_kindsThatFit_47_e (ls_X3_kindsThatFit_47_1 (rs_X3_kindsThatFit_47_5) 1000) v1 M h)
noncomputable def F_X8_kinds_0 : Nat → List am_V → am_M → am_Rs := fun k as M => if k = 33 then (match as with
  | [.inr (.inr (some 11)), .inl a1] => X_X2_has_11 a1 M
  | _ => none) else if k = 49 then (match as with
  | [.inr (.inr (some 47)), .inl a1] => X_X3_kindsThatFit_47 a1 M
  | _ => none) else none
theorem fs_X8_kinds_0 : am_FS SH F_X8_kinds_0 := by
  intro k as M x M' h
  unfold F_X8_kinds_0 at h
  split at h
  · rename_i hk; subst hk
    split at h
    · exact dc_X2_has_11 _ _ _ _ h
    · cases h
  split at h
  · rename_i hk; subst hk
    split at h
    · exact dc_X3_kindsThatFit_47 _ _ _ _ h
    · cases h
  cases h
noncomputable def X_X8_kinds_0 (v1 : Int) (M : am_M) : am_Rs :=
  (X_X2_has_11 v1 M).bind fun z1 =>
  if wI z1.1 = 0 then
   some ((-1), z1.2)
  else (X_X3_kindsThatFit_47 v1 z1.2).bind fun z2 =>
  some (z2.1, z2.2)
set_option maxRecDepth 100000 in
theorem dc_X8_kinds_0 (v1 : Int) (M M' : am_M) (x : Int) (h : X_X8_kinds_0 v1 M = some (x, M')) : am_Calls 145 [.inr (.inr (some 0)), .inl v1] SH M (am_rv (am_rk 145) x) SH M' :=
  vCall (F := F_X8_kinds_0) (C := fun _ _ _ _ => none) (fu := 5) ok_X8_kinds pn_X8_kinds ml_X8_kinds rfl (Nat.le_of_ble_eq_true rfl) fs_X8_kinds_0 (fun _ _ _ _ h => by cases h) h
noncomputable def F_X8_lots_0 : Nat → List am_V → am_M → am_Rs := fun k as M => if k = 17 then (match as with
  | [.inr (.inr (some 14)), .inr (.inr (some 11)), .inl a2, .inl a3] => X_X1_pass_14_11 a2 a3 M
  | _ => none) else if k = 158 then (match as with
  | [.inr (.inr (some 0))] => X_X8_hasNoLand_0 M
  | _ => none) else none
theorem fs_X8_lots_0 : am_FS SH F_X8_lots_0 := by
  intro k as M x M' h
  unfold F_X8_lots_0 at h
  split at h
  · rename_i hk; subst hk
    split at h
    · exact dc_X1_pass_14_11 _ _ _ _ _ h
    · cases h
  split at h
  · rename_i hk; subst hk
    split at h
    · exact dc_X8_hasNoLand_0 _ _ _ h
    · cases h
  cases h
noncomputable def XB_X8_lots_0_10 (c10 : Int → Int → Int → am_M → am_Rs) (c12 : am_M → am_Rs) (v1 v3 v5 : Int) (M : am_M) : am_Rs :=
  if wI v5 < wI v1 then
   (X_X1_pass_14_11 ((wL ((wL (48271 * v3)).tmod 2147483647)).tmod 4) ((wL ((wL ((wL (48271 * v3)).tmod 2147483647)).tdiv 16)).tmod 4) M).bind fun z1 =>
   c10 v1 ((wL (48271 * v3)).tmod 2147483647) (v5 + 1) z1.2
  else c12 M
set_option maxRecDepth 100000 in
theorem rs_X8_lots_0_10 {x : Int} {M' : am_M} {c10 : Int → Int → Int → am_M → am_Rs} {c12 : am_M → am_Rs} (h10 : ∀ w1 w3 w5 M, c10 w1 w3 w5 M = some (x, M') → am_R none 146 bk_X8_lots 10 (am_wr [3, 1, 0, 2, 0, 1] [w1, w3, w5]) [] SH M (am_rv (am_rk 146) x) SH M') (h12 : ∀ M, c12 M = some (x, M') → am_R none 146 bk_X8_lots 12 (am_wr [3, 0, 0, 0, 0, 0] []) [] SH M (am_rv (am_rk 146) x) SH M') (v1 v3 v5 : Int) (M : am_M) (h : XB_X8_lots_0_10 c10 c12 v1 v3 v5 M = some (x, M')) : am_R none 146 bk_X8_lots 10 (am_wr [3, 1, 0, 2, 0, 1] [v1, v3, v5]) [] SH M (am_rv (am_rk 146) x) SH M' :=
  vRegion (sc := none) (sh := SH) (F := F_X8_lots_0) (k := 146) (bs := bk_X8_lots) (r := (x, M')) (C := fun t lv st M => if t = 10 then vCt [3, 1, 0, 2, 0, 1] (un3 c10) lv st M else if t = 12 then vCt [3, 0, 0, 0, 0, 0] (un0 c12) lv st M else none) ok_X8_lots fs_X8_lots_0 (fun t lv st M h => by
    split at h
    · rename_i e; subst e; exact vCt_s (un3_s h10) h
    split at h
    · rename_i e; subst e; exact vCt_s (un0_s h12) h
    cases h) 15 10 (am_wr [3, 1, 0, 2, 0, 1] [v1, v3, v5]) [] M h
noncomputable def XB_X8_lots_0_12 (M : am_M) : am_Rs :=
  some (M 14 1, M)
set_option maxRecDepth 100000 in
theorem rs_X8_lots_0_12 {x : Int} {M' : am_M} (M : am_M) (h : XB_X8_lots_0_12 M = some (x, M')) : am_R none 146 bk_X8_lots 12 (am_wr [3, 0, 0, 0, 0, 0] []) [] SH M (am_rv (am_rk 146) x) SH M' :=
  vRegion (sc := none) (sh := SH) (F := F_X8_lots_0) (k := 146) (bs := bk_X8_lots) (r := (x, M')) (C := fun t lv st M => none) ok_X8_lots fs_X8_lots_0 (fun t lv st M h => by
    cases h) 15 12 (am_wr [3, 0, 0, 0, 0, 0] []) [] M h
noncomputable def XB_X8_lots_0_e (c10 : Int → Int → Int → am_M → am_Rs) (v1 v2 : Int) (M : am_M) : am_Rs :=
  if wI v1 < 1 then
   some ((-1), M)
  else if 20 < wI v1 then
   some ((-1), M)
  else if wI v2 < 1 then
   some ((-1), M)
  else if wI (c_lcmp (wI v2) 2147483647) < 0 then
   (X_X8_hasNoLand_0 M).bind fun z1 =>
   if wI z1.1 = 0 then
    if 40 < wI ((z1.2 14 0) + v1) then
     some ((-2), z1.2)
    else c10 v1 (wI v2) 0 z1.2
   else some ((-4), z1.2)
  else some ((-1), M)
set_option maxRecDepth 100000 in
theorem rs_X8_lots_0_e {x : Int} {M' : am_M} {c10 : Int → Int → Int → am_M → am_Rs} (h10 : ∀ w1 w3 w5 M, c10 w1 w3 w5 M = some (x, M') → am_R none 146 bk_X8_lots 10 (am_wr [3, 1, 0, 2, 0, 1] [w1, w3, w5]) [] SH M (am_rv (am_rk 146) x) SH M') (v1 v2 : Int) (M : am_M) (h : XB_X8_lots_0_e c10 v1 v2 M = some (x, M')) : am_R none 146 bk_X8_lots 0 (am_ent 6 [.inr (.inr (some 0)), .inl v1, .inl v2]) [] SH M (am_rv (am_rk 146) x) SH M' :=
  vRegion (sc := none) (sh := SH) (F := F_X8_lots_0) (k := 146) (bs := bk_X8_lots) (r := (x, M')) (C := fun t lv st M => if t = 10 then vCt [3, 1, 0, 2, 0, 1] (un3 c10) lv st M else none) ok_X8_lots fs_X8_lots_0 (fun t lv st M h => by
    split at h
    · rename_i e; subst e; exact vCt_s (un3_s h10) h
    cases h) 15 0 (am_ent 6 [.inr (.inr (some 0)), .inl v1, .inl v2]) [] M h
noncomputable def XL_X8_lots_0_10 (k12 : am_M → am_Rs) : Nat → Int → Int → Int → am_M → am_Rs
  | 0, _, _, _, _ => none
  | n + 1, v1, v3, v5, M => XB_X8_lots_0_10 (XL_X8_lots_0_10 k12 n) k12 v1 v3 v5 M
theorem ls_X8_lots_0_10 {x : Int} {M' : am_M} {k12 : am_M → am_Rs} (hk12 : ∀ M, k12 M = some (x, M') → am_R none 146 bk_X8_lots 12 (am_wr [3, 0, 0, 0, 0, 0] []) [] SH M (am_rv (am_rk 146) x) SH M') : ∀ (n : Nat) (v1 v3 v5 : Int) (M : am_M), XL_X8_lots_0_10 k12 n v1 v3 v5 M = some (x, M') → am_R none 146 bk_X8_lots 10 (am_wr [3, 1, 0, 2, 0, 1] [v1, v3, v5]) [] SH M (am_rv (am_rk 146) x) SH M'
  | 0, v1, v3, v5, M, h => by cases h
  | n + 1, v1, v3, v5, M, h => rs_X8_lots_0_10 (ls_X8_lots_0_10 hk12 n) hk12 v1 v3 v5 M h
noncomputable def X_X8_lots_0 (v1 v2 : Int) (M : am_M) : am_Rs := XB_X8_lots_0_e (XL_X8_lots_0_10 (XB_X8_lots_0_12) 1000) v1 v2 M
theorem dc_X8_lots_0 (v1 v2 : Int) (M M' : am_M) (x : Int) (h : X_X8_lots_0 v1 v2 M = some (x, M')) : am_Calls 146 [.inr (.inr (some 0)), .inl v1, .inl v2] SH M (am_rv (am_rk 146) x) SH M' :=
  am_enter pn_X8_lots ml_X8_lots rfl (Nat.le_of_ble_eq_true rfl) ⟨Nat.le_refl _, Nat.le_refl _⟩ (rs_X8_lots_0_e (ls_X8_lots_0_10 (rs_X8_lots_0_12) 1000) v1 v2 M h)
noncomputable def X_X8_asked_0 (M : am_M) : am_Rs :=
  some (M 0 13, M)
set_option maxRecDepth 100000 in
theorem dc_X8_asked_0 (M M' : am_M) (x : Int) (h : X_X8_asked_0 M = some (x, M')) : am_Calls 147 [.inr (.inr (some 0))] SH M (am_rv (am_rk 147) x) SH M' :=
  vCall (F := F_none) (C := fun _ _ _ _ => none) (fu := 3) ok_X8_asked pn_X8_asked ml_X8_asked rfl (Nat.le_of_ble_eq_true rfl) fs_none (fun _ _ _ _ h => by cases h) h
noncomputable def X_X8_upper_0 (M : am_M) : am_Rs :=
  some (M 0 14, M)
set_option maxRecDepth 100000 in
theorem dc_X8_upper_0 (M M' : am_M) (x : Int) (h : X_X8_upper_0 M = some (x, M')) : am_Calls 148 [.inr (.inr (some 0))] SH M (am_rv (am_rk 148) x) SH M' :=
  vCall (F := F_none) (C := fun _ _ _ _ => none) (fu := 3) ok_X8_upper pn_X8_upper ml_X8_upper rfl (Nat.le_of_ble_eq_true rfl) fs_none (fun _ _ _ _ h => by cases h) h
noncomputable def X_X8_lower_0 (M : am_M) : am_Rs :=
  some (M 0 15, M)
set_option maxRecDepth 100000 in
theorem dc_X8_lower_0 (M M' : am_M) (x : Int) (h : X_X8_lower_0 M = some (x, M')) : am_Calls 149 [.inr (.inr (some 0))] SH M (am_rv (am_rk 149) x) SH M' :=
  vCall (F := F_none) (C := fun _ _ _ _ => none) (fu := 3) ok_X8_lower pn_X8_lower ml_X8_lower rfl (Nat.le_of_ble_eq_true rfl) fs_none (fun _ _ _ _ h => by cases h) h
noncomputable def XB_X8_keptLands_0_1 (c1 : Int → Int → am_M → am_Rs) (c5 : Int → am_M → am_Rs) (v1 v2 : Int) (M : am_M) : am_Rs :=
  if wI v2 < 3 then
   if 0 ≤ wI v2 ∧ wI v2 < 3 then
   if wI (M 35 (wI v2).toNat) = (-1) then
     c1 v1 (v2 + 1) M
    else c1 (v1 + 1) (v2 + 1) M
   else none
  else c5 v1 M
set_option maxRecDepth 100000 in
theorem rs_X8_keptLands_0_1 {x : Int} {M' : am_M} {c1 : Int → Int → am_M → am_Rs} {c5 : Int → am_M → am_Rs} (h1 : ∀ w1 w2 M, c1 w1 w2 M = some (x, M') → am_R none 166 bk_X8_keptLands 1 (am_wr [3, 1, 1] [w1, w2]) [] SH M (am_rv (am_rk 166) x) SH M') (h5 : ∀ w1 M, c5 w1 M = some (x, M') → am_R none 166 bk_X8_keptLands 5 (am_wr [0, 1, 0] [w1]) [] SH M (am_rv (am_rk 166) x) SH M') (v1 v2 : Int) (M : am_M) (h : XB_X8_keptLands_0_1 c1 c5 v1 v2 M = some (x, M')) : am_R none 166 bk_X8_keptLands 1 (am_wr [3, 1, 1] [v1, v2]) [] SH M (am_rv (am_rk 166) x) SH M' :=
  vRegion (sc := none) (sh := SH) (F := F_none) (k := 166) (bs := bk_X8_keptLands) (r := (x, M')) (C := fun t lv st M => if t = 1 then vCt [3, 1, 1] (un2 c1) lv st M else if t = 5 then vCt [0, 1, 0] (un1 c5) lv st M else none) ok_X8_keptLands fs_none (fun t lv st M h => by
    split at h
    · rename_i e; subst e; exact vCt_s (un2_s h1) h
    split at h
    · rename_i e; subst e; exact vCt_s (un1_s h5) h
    cases h) 8 1 (am_wr [3, 1, 1] [v1, v2]) [] M h
noncomputable def XB_X8_keptLands_0_5 (v1 : Int) (M : am_M) : am_Rs :=
  some (v1, M)
set_option maxRecDepth 100000 in
theorem rs_X8_keptLands_0_5 {x : Int} {M' : am_M} (v1 : Int) (M : am_M) (h : XB_X8_keptLands_0_5 v1 M = some (x, M')) : am_R none 166 bk_X8_keptLands 5 (am_wr [0, 1, 0] [v1]) [] SH M (am_rv (am_rk 166) x) SH M' :=
  vRegion (sc := none) (sh := SH) (F := F_none) (k := 166) (bs := bk_X8_keptLands) (r := (x, M')) (C := fun t lv st M => none) ok_X8_keptLands fs_none (fun t lv st M h => by
    cases h) 8 5 (am_wr [0, 1, 0] [v1]) [] M h
noncomputable def XB_X8_keptLands_0_e (c1 : Int → Int → am_M → am_Rs) (M : am_M) : am_Rs :=
  c1 0 0 M
set_option maxRecDepth 100000 in
theorem rs_X8_keptLands_0_e {x : Int} {M' : am_M} {c1 : Int → Int → am_M → am_Rs} (h1 : ∀ w1 w2 M, c1 w1 w2 M = some (x, M') → am_R none 166 bk_X8_keptLands 1 (am_wr [3, 1, 1] [w1, w2]) [] SH M (am_rv (am_rk 166) x) SH M') (M : am_M) (h : XB_X8_keptLands_0_e c1 M = some (x, M')) : am_R none 166 bk_X8_keptLands 0 (am_ent 3 [.inr (.inr (some 0))]) [] SH M (am_rv (am_rk 166) x) SH M' :=
  vRegion (sc := none) (sh := SH) (F := F_none) (k := 166) (bs := bk_X8_keptLands) (r := (x, M')) (C := fun t lv st M => if t = 1 then vCt [3, 1, 1] (un2 c1) lv st M else none) ok_X8_keptLands fs_none (fun t lv st M h => by
    split at h
    · rename_i e; subst e; exact vCt_s (un2_s h1) h
    cases h) 8 0 (am_ent 3 [.inr (.inr (some 0))]) [] M h
noncomputable def XL_X8_keptLands_0_1 (k5 : Int → am_M → am_Rs) : Nat → Int → Int → am_M → am_Rs
  | 0, _, _, _ => none
  | n + 1, v1, v2, M => XB_X8_keptLands_0_1 (XL_X8_keptLands_0_1 k5 n) k5 v1 v2 M
theorem ls_X8_keptLands_0_1 {x : Int} {M' : am_M} {k5 : Int → am_M → am_Rs} (hk5 : ∀ w1 M, k5 w1 M = some (x, M') → am_R none 166 bk_X8_keptLands 5 (am_wr [0, 1, 0] [w1]) [] SH M (am_rv (am_rk 166) x) SH M') : ∀ (n : Nat) (v1 v2 : Int) (M : am_M), XL_X8_keptLands_0_1 k5 n v1 v2 M = some (x, M') → am_R none 166 bk_X8_keptLands 1 (am_wr [3, 1, 1] [v1, v2]) [] SH M (am_rv (am_rk 166) x) SH M'
  | 0, v1, v2, M, h => by cases h
  | n + 1, v1, v2, M, h => rs_X8_keptLands_0_1 (ls_X8_keptLands_0_1 hk5 n) hk5 v1 v2 M h
noncomputable def X_X8_keptLands_0 (M : am_M) : am_Rs := XB_X8_keptLands_0_e (XL_X8_keptLands_0_1 (XB_X8_keptLands_0_5) 1000) M
theorem dc_X8_keptLands_0 (M M' : am_M) (x : Int) (h : X_X8_keptLands_0 M = some (x, M')) : am_Calls 166 [.inr (.inr (some 0))] SH M (am_rv (am_rk 166) x) SH M' :=
  am_enter pn_X8_keptLands ml_X8_keptLands rfl (Nat.le_of_ble_eq_true rfl) ⟨Nat.le_refl _, Nat.le_refl _⟩ (rs_X8_keptLands_0_e (ls_X8_keptLands_0_1 (rs_X8_keptLands_0_5) 1000) M h)
noncomputable def F_X6_howMany_4 : Nat → List am_V → am_M → am_Rs := fun k as M => if k = 82 then (match as with
  | [.inr (.inr (some 4)), .inl a1] => X_X6_isThere_4 a1 M
  | _ => none) else none
theorem fs_X6_howMany_4 : am_FS SH F_X6_howMany_4 := by
  intro k as M x M' h
  unfold F_X6_howMany_4 at h
  split at h
  · rename_i hk; subst hk
    split at h
    · exact dc_X6_isThere_4 _ _ _ _ h
    · cases h
  cases h
noncomputable def XB_X6_howMany_4_1 (c1 : Int → Int → am_M → am_Rs) (c5 : Int → am_M → am_Rs) (v1 v2 : Int) (M : am_M) : am_Rs :=
  if wI v2 < wI (M 4 0) then
   (X_X6_isThere_4 v2 M).bind fun z1 =>
   if wI z1.1 = 0 then
    c1 v1 (v2 + 1) z1.2
   else c1 (v1 + 1) (v2 + 1) z1.2
  else c5 v1 M
set_option maxRecDepth 100000 in
theorem rs_X6_howMany_4_1 {x : Int} {M' : am_M} {c1 : Int → Int → am_M → am_Rs} {c5 : Int → am_M → am_Rs} (h1 : ∀ w1 w2 M, c1 w1 w2 M = some (x, M') → am_R none 93 bk_X6_howMany 1 (am_wr [7, 1, 1] [w1, w2]) [] SH M (am_rv (am_rk 93) x) SH M') (h5 : ∀ w1 M, c5 w1 M = some (x, M') → am_R none 93 bk_X6_howMany 5 (am_wr [0, 1, 0] [w1]) [] SH M (am_rv (am_rk 93) x) SH M') (v1 v2 : Int) (M : am_M) (h : XB_X6_howMany_4_1 c1 c5 v1 v2 M = some (x, M')) : am_R none 93 bk_X6_howMany 1 (am_wr [7, 1, 1] [v1, v2]) [] SH M (am_rv (am_rk 93) x) SH M' :=
  vRegion (sc := none) (sh := SH) (F := F_X6_howMany_4) (k := 93) (bs := bk_X6_howMany) (r := (x, M')) (C := fun t lv st M => if t = 1 then vCt [7, 1, 1] (un2 c1) lv st M else if t = 5 then vCt [0, 1, 0] (un1 c5) lv st M else none) ok_X6_howMany fs_X6_howMany_4 (fun t lv st M h => by
    split at h
    · rename_i e; subst e; exact vCt_s (un2_s h1) h
    split at h
    · rename_i e; subst e; exact vCt_s (un1_s h5) h
    cases h) 8 1 (am_wr [7, 1, 1] [v1, v2]) [] M h
noncomputable def XB_X6_howMany_4_5 (v1 : Int) (M : am_M) : am_Rs :=
  some (v1, M)
set_option maxRecDepth 100000 in
theorem rs_X6_howMany_4_5 {x : Int} {M' : am_M} (v1 : Int) (M : am_M) (h : XB_X6_howMany_4_5 v1 M = some (x, M')) : am_R none 93 bk_X6_howMany 5 (am_wr [0, 1, 0] [v1]) [] SH M (am_rv (am_rk 93) x) SH M' :=
  vRegion (sc := none) (sh := SH) (F := F_X6_howMany_4) (k := 93) (bs := bk_X6_howMany) (r := (x, M')) (C := fun t lv st M => none) ok_X6_howMany fs_X6_howMany_4 (fun t lv st M h => by
    cases h) 8 5 (am_wr [0, 1, 0] [v1]) [] M h
noncomputable def XB_X6_howMany_4_e (c1 : Int → Int → am_M → am_Rs) (M : am_M) : am_Rs :=
  c1 0 0 M
set_option maxRecDepth 100000 in
theorem rs_X6_howMany_4_e {x : Int} {M' : am_M} {c1 : Int → Int → am_M → am_Rs} (h1 : ∀ w1 w2 M, c1 w1 w2 M = some (x, M') → am_R none 93 bk_X6_howMany 1 (am_wr [7, 1, 1] [w1, w2]) [] SH M (am_rv (am_rk 93) x) SH M') (M : am_M) (h : XB_X6_howMany_4_e c1 M = some (x, M')) : am_R none 93 bk_X6_howMany 0 (am_ent 3 [.inr (.inr (some 4))]) [] SH M (am_rv (am_rk 93) x) SH M' :=
  vRegion (sc := none) (sh := SH) (F := F_X6_howMany_4) (k := 93) (bs := bk_X6_howMany) (r := (x, M')) (C := fun t lv st M => if t = 1 then vCt [7, 1, 1] (un2 c1) lv st M else none) ok_X6_howMany fs_X6_howMany_4 (fun t lv st M h => by
    split at h
    · rename_i e; subst e; exact vCt_s (un2_s h1) h
    cases h) 8 0 (am_ent 3 [.inr (.inr (some 4))]) [] M h
noncomputable def XL_X6_howMany_4_1 (k5 : Int → am_M → am_Rs) : Nat → Int → Int → am_M → am_Rs
  | 0, _, _, _ => none
  | n + 1, v1, v2, M => XB_X6_howMany_4_1 (XL_X6_howMany_4_1 k5 n) k5 v1 v2 M
theorem ls_X6_howMany_4_1 {x : Int} {M' : am_M} {k5 : Int → am_M → am_Rs} (hk5 : ∀ w1 M, k5 w1 M = some (x, M') → am_R none 93 bk_X6_howMany 5 (am_wr [0, 1, 0] [w1]) [] SH M (am_rv (am_rk 93) x) SH M') : ∀ (n : Nat) (v1 v2 : Int) (M : am_M), XL_X6_howMany_4_1 k5 n v1 v2 M = some (x, M') → am_R none 93 bk_X6_howMany 1 (am_wr [7, 1, 1] [v1, v2]) [] SH M (am_rv (am_rk 93) x) SH M'
  | 0, v1, v2, M, h => by cases h
  | n + 1, v1, v2, M, h => rs_X6_howMany_4_1 (ls_X6_howMany_4_1 hk5 n) hk5 v1 v2 M h
noncomputable def X_X6_howMany_4 (M : am_M) : am_Rs := XB_X6_howMany_4_e (XL_X6_howMany_4_1 (XB_X6_howMany_4_5) 1000) M
theorem dc_X6_howMany_4 (M M' : am_M) (x : Int) (h : X_X6_howMany_4 M = some (x, M')) : am_Calls 93 [.inr (.inr (some 4))] SH M (am_rv (am_rk 93) x) SH M' :=
  am_enter pn_X6_howMany ml_X6_howMany rfl (Nat.le_of_ble_eq_true rfl) ⟨Nat.le_refl _, Nat.le_refl _⟩ (rs_X6_howMany_4_e (ls_X6_howMany_4_1 (rs_X6_howMany_4_5) 1000) M h)
noncomputable def F_X6_howMany_1 : Nat → List am_V → am_M → am_Rs := fun k as M => if k = 82 then (match as with
  | [.inr (.inr (some 1)), .inl a1] => X_X6_isThere_1 a1 M
  | _ => none) else none
theorem fs_X6_howMany_1 : am_FS SH F_X6_howMany_1 := by
  intro k as M x M' h
  unfold F_X6_howMany_1 at h
  split at h
  · rename_i hk; subst hk
    split at h
    · exact dc_X6_isThere_1 _ _ _ _ h
    · cases h
  cases h
noncomputable def XB_X6_howMany_1_1 (c1 : Int → Int → am_M → am_Rs) (c5 : Int → am_M → am_Rs) (v1 v2 : Int) (M : am_M) : am_Rs :=
  if wI v2 < wI (M 1 0) then
   (X_X6_isThere_1 v2 M).bind fun z1 =>
   if wI z1.1 = 0 then
    c1 v1 (v2 + 1) z1.2
   else c1 (v1 + 1) (v2 + 1) z1.2
  else c5 v1 M
set_option maxRecDepth 100000 in
theorem rs_X6_howMany_1_1 {x : Int} {M' : am_M} {c1 : Int → Int → am_M → am_Rs} {c5 : Int → am_M → am_Rs} (h1 : ∀ w1 w2 M, c1 w1 w2 M = some (x, M') → am_R none 93 bk_X6_howMany 1 (am_wr [4, 1, 1] [w1, w2]) [] SH M (am_rv (am_rk 93) x) SH M') (h5 : ∀ w1 M, c5 w1 M = some (x, M') → am_R none 93 bk_X6_howMany 5 (am_wr [0, 1, 0] [w1]) [] SH M (am_rv (am_rk 93) x) SH M') (v1 v2 : Int) (M : am_M) (h : XB_X6_howMany_1_1 c1 c5 v1 v2 M = some (x, M')) : am_R none 93 bk_X6_howMany 1 (am_wr [4, 1, 1] [v1, v2]) [] SH M (am_rv (am_rk 93) x) SH M' :=
  vRegion (sc := none) (sh := SH) (F := F_X6_howMany_1) (k := 93) (bs := bk_X6_howMany) (r := (x, M')) (C := fun t lv st M => if t = 1 then vCt [4, 1, 1] (un2 c1) lv st M else if t = 5 then vCt [0, 1, 0] (un1 c5) lv st M else none) ok_X6_howMany fs_X6_howMany_1 (fun t lv st M h => by
    split at h
    · rename_i e; subst e; exact vCt_s (un2_s h1) h
    split at h
    · rename_i e; subst e; exact vCt_s (un1_s h5) h
    cases h) 8 1 (am_wr [4, 1, 1] [v1, v2]) [] M h
noncomputable def XB_X6_howMany_1_5 (v1 : Int) (M : am_M) : am_Rs :=
  some (v1, M)
set_option maxRecDepth 100000 in
theorem rs_X6_howMany_1_5 {x : Int} {M' : am_M} (v1 : Int) (M : am_M) (h : XB_X6_howMany_1_5 v1 M = some (x, M')) : am_R none 93 bk_X6_howMany 5 (am_wr [0, 1, 0] [v1]) [] SH M (am_rv (am_rk 93) x) SH M' :=
  vRegion (sc := none) (sh := SH) (F := F_X6_howMany_1) (k := 93) (bs := bk_X6_howMany) (r := (x, M')) (C := fun t lv st M => none) ok_X6_howMany fs_X6_howMany_1 (fun t lv st M h => by
    cases h) 8 5 (am_wr [0, 1, 0] [v1]) [] M h
noncomputable def XB_X6_howMany_1_e (c1 : Int → Int → am_M → am_Rs) (M : am_M) : am_Rs :=
  c1 0 0 M
set_option maxRecDepth 100000 in
theorem rs_X6_howMany_1_e {x : Int} {M' : am_M} {c1 : Int → Int → am_M → am_Rs} (h1 : ∀ w1 w2 M, c1 w1 w2 M = some (x, M') → am_R none 93 bk_X6_howMany 1 (am_wr [4, 1, 1] [w1, w2]) [] SH M (am_rv (am_rk 93) x) SH M') (M : am_M) (h : XB_X6_howMany_1_e c1 M = some (x, M')) : am_R none 93 bk_X6_howMany 0 (am_ent 3 [.inr (.inr (some 1))]) [] SH M (am_rv (am_rk 93) x) SH M' :=
  vRegion (sc := none) (sh := SH) (F := F_X6_howMany_1) (k := 93) (bs := bk_X6_howMany) (r := (x, M')) (C := fun t lv st M => if t = 1 then vCt [4, 1, 1] (un2 c1) lv st M else none) ok_X6_howMany fs_X6_howMany_1 (fun t lv st M h => by
    split at h
    · rename_i e; subst e; exact vCt_s (un2_s h1) h
    cases h) 8 0 (am_ent 3 [.inr (.inr (some 1))]) [] M h
noncomputable def XL_X6_howMany_1_1 (k5 : Int → am_M → am_Rs) : Nat → Int → Int → am_M → am_Rs
  | 0, _, _, _ => none
  | n + 1, v1, v2, M => XB_X6_howMany_1_1 (XL_X6_howMany_1_1 k5 n) k5 v1 v2 M
theorem ls_X6_howMany_1_1 {x : Int} {M' : am_M} {k5 : Int → am_M → am_Rs} (hk5 : ∀ w1 M, k5 w1 M = some (x, M') → am_R none 93 bk_X6_howMany 5 (am_wr [0, 1, 0] [w1]) [] SH M (am_rv (am_rk 93) x) SH M') : ∀ (n : Nat) (v1 v2 : Int) (M : am_M), XL_X6_howMany_1_1 k5 n v1 v2 M = some (x, M') → am_R none 93 bk_X6_howMany 1 (am_wr [4, 1, 1] [v1, v2]) [] SH M (am_rv (am_rk 93) x) SH M'
  | 0, v1, v2, M, h => by cases h
  | n + 1, v1, v2, M, h => rs_X6_howMany_1_1 (ls_X6_howMany_1_1 hk5 n) hk5 v1 v2 M h
noncomputable def X_X6_howMany_1 (M : am_M) : am_Rs := XB_X6_howMany_1_e (XL_X6_howMany_1_1 (XB_X6_howMany_1_5) 1000) M
theorem dc_X6_howMany_1 (M M' : am_M) (x : Int) (h : X_X6_howMany_1 M = some (x, M')) : am_Calls 93 [.inr (.inr (some 1))] SH M (am_rv (am_rk 93) x) SH M' :=
  am_enter pn_X6_howMany ml_X6_howMany rfl (Nat.le_of_ble_eq_true rfl) ⟨Nat.le_refl _, Nat.le_refl _⟩ (rs_X6_howMany_1_e (ls_X6_howMany_1_1 (rs_X6_howMany_1_5) 1000) M h)
noncomputable def F_X2_howManyAre_11 : Nat → List am_V → am_M → am_Rs := fun k as M => if k = 37 then (match as with
  | [.inr (.inr (some 11)), .inl a1, .inl a2] => X_X2_isOf_11 a1 a2 M
  | _ => none) else none
theorem fs_X2_howManyAre_11 : am_FS SH F_X2_howManyAre_11 := by
  intro k as M x M' h
  unfold F_X2_howManyAre_11 at h
  split at h
  · rename_i hk; subst hk
    split at h
    · exact dc_X2_isOf_11 _ _ _ _ _ h
    · cases h
  cases h
noncomputable def XB_X2_howManyAre_11_1 (c1 : Int → Int → Int → am_M → am_Rs) (c5 : Int → am_M → am_Rs) (v1 v2 v3 : Int) (M : am_M) : am_Rs :=
  if wI v3 < wI (M 11 0) then
   (X_X2_isOf_11 v3 v1 M).bind fun z1 =>
   if wI z1.1 = 0 then
    c1 v1 v2 (v3 + 1) z1.2
   else c1 v1 (v2 + 1) (v3 + 1) z1.2
  else c5 v2 M
set_option maxRecDepth 100000 in
theorem rs_X2_howManyAre_11_1 {x : Int} {M' : am_M} {c1 : Int → Int → Int → am_M → am_Rs} {c5 : Int → am_M → am_Rs} (h1 : ∀ w1 w2 w3 M, c1 w1 w2 w3 M = some (x, M') → am_R none 38 bk_X2_howManyAre 1 (am_wr [14, 1, 1, 1] [w1, w2, w3]) [] SH M (am_rv (am_rk 38) x) SH M') (h5 : ∀ w2 M, c5 w2 M = some (x, M') → am_R none 38 bk_X2_howManyAre 5 (am_wr [0, 0, 1, 0] [w2]) [] SH M (am_rv (am_rk 38) x) SH M') (v1 v2 v3 : Int) (M : am_M) (h : XB_X2_howManyAre_11_1 c1 c5 v1 v2 v3 M = some (x, M')) : am_R none 38 bk_X2_howManyAre 1 (am_wr [14, 1, 1, 1] [v1, v2, v3]) [] SH M (am_rv (am_rk 38) x) SH M' :=
  vRegion (sc := none) (sh := SH) (F := F_X2_howManyAre_11) (k := 38) (bs := bk_X2_howManyAre) (r := (x, M')) (C := fun t lv st M => if t = 1 then vCt [14, 1, 1, 1] (un3 c1) lv st M else if t = 5 then vCt [0, 0, 1, 0] (un1 c5) lv st M else none) ok_X2_howManyAre fs_X2_howManyAre_11 (fun t lv st M h => by
    split at h
    · rename_i e; subst e; exact vCt_s (un3_s h1) h
    split at h
    · rename_i e; subst e; exact vCt_s (un1_s h5) h
    cases h) 8 1 (am_wr [14, 1, 1, 1] [v1, v2, v3]) [] M h
noncomputable def XB_X2_howManyAre_11_5 (v2 : Int) (M : am_M) : am_Rs :=
  some (v2, M)
set_option maxRecDepth 100000 in
theorem rs_X2_howManyAre_11_5 {x : Int} {M' : am_M} (v2 : Int) (M : am_M) (h : XB_X2_howManyAre_11_5 v2 M = some (x, M')) : am_R none 38 bk_X2_howManyAre 5 (am_wr [0, 0, 1, 0] [v2]) [] SH M (am_rv (am_rk 38) x) SH M' :=
  vRegion (sc := none) (sh := SH) (F := F_X2_howManyAre_11) (k := 38) (bs := bk_X2_howManyAre) (r := (x, M')) (C := fun t lv st M => none) ok_X2_howManyAre fs_X2_howManyAre_11 (fun t lv st M h => by
    cases h) 8 5 (am_wr [0, 0, 1, 0] [v2]) [] M h
noncomputable def XB_X2_howManyAre_11_e (c1 : Int → Int → Int → am_M → am_Rs) (v1 : Int) (M : am_M) : am_Rs :=
  c1 v1 0 0 M
set_option maxRecDepth 100000 in
theorem rs_X2_howManyAre_11_e {x : Int} {M' : am_M} {c1 : Int → Int → Int → am_M → am_Rs} (h1 : ∀ w1 w2 w3 M, c1 w1 w2 w3 M = some (x, M') → am_R none 38 bk_X2_howManyAre 1 (am_wr [14, 1, 1, 1] [w1, w2, w3]) [] SH M (am_rv (am_rk 38) x) SH M') (v1 : Int) (M : am_M) (h : XB_X2_howManyAre_11_e c1 v1 M = some (x, M')) : am_R none 38 bk_X2_howManyAre 0 (am_ent 4 [.inr (.inr (some 11)), .inl v1]) [] SH M (am_rv (am_rk 38) x) SH M' :=
  vRegion (sc := none) (sh := SH) (F := F_X2_howManyAre_11) (k := 38) (bs := bk_X2_howManyAre) (r := (x, M')) (C := fun t lv st M => if t = 1 then vCt [14, 1, 1, 1] (un3 c1) lv st M else none) ok_X2_howManyAre fs_X2_howManyAre_11 (fun t lv st M h => by
    split at h
    · rename_i e; subst e; exact vCt_s (un3_s h1) h
    cases h) 8 0 (am_ent 4 [.inr (.inr (some 11)), .inl v1]) [] M h
noncomputable def XL_X2_howManyAre_11_1 (k5 : Int → am_M → am_Rs) : Nat → Int → Int → Int → am_M → am_Rs
  | 0, _, _, _, _ => none
  | n + 1, v1, v2, v3, M => XB_X2_howManyAre_11_1 (XL_X2_howManyAre_11_1 k5 n) k5 v1 v2 v3 M
theorem ls_X2_howManyAre_11_1 {x : Int} {M' : am_M} {k5 : Int → am_M → am_Rs} (hk5 : ∀ w2 M, k5 w2 M = some (x, M') → am_R none 38 bk_X2_howManyAre 5 (am_wr [0, 0, 1, 0] [w2]) [] SH M (am_rv (am_rk 38) x) SH M') : ∀ (n : Nat) (v1 v2 v3 : Int) (M : am_M), XL_X2_howManyAre_11_1 k5 n v1 v2 v3 M = some (x, M') → am_R none 38 bk_X2_howManyAre 1 (am_wr [14, 1, 1, 1] [v1, v2, v3]) [] SH M (am_rv (am_rk 38) x) SH M'
  | 0, v1, v2, v3, M, h => by cases h
  | n + 1, v1, v2, v3, M, h => rs_X2_howManyAre_11_1 (ls_X2_howManyAre_11_1 hk5 n) hk5 v1 v2 v3 M h
noncomputable def X_X2_howManyAre_11 (v1 : Int) (M : am_M) : am_Rs := XB_X2_howManyAre_11_e (XL_X2_howManyAre_11_1 (XB_X2_howManyAre_11_5) 1000) v1 M
theorem dc_X2_howManyAre_11 (v1 : Int) (M M' : am_M) (x : Int) (h : X_X2_howManyAre_11 v1 M = some (x, M')) : am_Calls 38 [.inr (.inr (some 11)), .inl v1] SH M (am_rv (am_rk 38) x) SH M' :=
  am_enter pn_X2_howManyAre ml_X2_howManyAre rfl (Nat.le_of_ble_eq_true rfl) ⟨Nat.le_refl _, Nat.le_refl _⟩ (rs_X2_howManyAre_11_e (ls_X2_howManyAre_11_1 (rs_X2_howManyAre_11_5) 1000) v1 M h)
noncomputable def F_X8_count_0 : Nat → List am_V → am_M → am_Rs := fun k as M => if k = 15 then (match as with
  | [.inr (.inr (some 14)), .inl a1] => X_X1_rateOf_14 a1 M
  | _ => none) else if k = 38 then (match as with
  | [.inr (.inr (some 11)), .inl a1] => X_X2_howManyAre_11 a1 M
  | _ => none) else if k = 93 then (match as with
  | [.inr (.inr (some 4))] => X_X6_howMany_4 M
  | [.inr (.inr (some 1))] => X_X6_howMany_1 M
  | _ => none) else if k = 166 then (match as with
  | [.inr (.inr (some 0))] => X_X8_keptLands_0 M
  | _ => none) else none
theorem fs_X8_count_0 : am_FS SH F_X8_count_0 := by
  intro k as M x M' h
  unfold F_X8_count_0 at h
  split at h
  · rename_i hk; subst hk
    split at h
    · exact dc_X1_rateOf_14 _ _ _ _ h
    · cases h
  split at h
  · rename_i hk; subst hk
    split at h
    · exact dc_X2_howManyAre_11 _ _ _ _ h
    · cases h
  split at h
  · rename_i hk; subst hk
    split at h
    · exact dc_X6_howMany_4 _ _ _ h
    · exact dc_X6_howMany_1 _ _ _ h
    · cases h
  split at h
  · rename_i hk; subst hk
    split at h
    · exact dc_X8_keptLands_0 _ _ _ h
    · cases h
  cases h
noncomputable def X_X8_count_0 (v1 : Int) (M : am_M) : am_Rs :=
  if wI v1 = 0 then
   some (M 11 0, M)
  else if wI v1 = 0 + 1 then
   some (M 14 0, M)
  else if wI v1 = 0 + 1 + 1 then
   (X_X1_rateOf_14 0 M).bind fun z1 =>
   some (z1.1, z1.2)
  else if wI v1 = 0 + 1 + 1 + 1 then
   (X_X1_rateOf_14 1 M).bind fun z1 =>
   some (z1.1, z1.2)
  else if wI v1 = 0 + 1 + 1 + 1 + 1 then
   (X_X2_howManyAre_11 1 M).bind fun z1 =>
   some (z1.1, z1.2)
  else if wI v1 = 0 + 1 + 1 + 1 + 1 + 1 then
   (X_X2_howManyAre_11 2 M).bind fun z1 =>
   some (z1.1, z1.2)
  else if wI v1 = 0 + 1 + 1 + 1 + 1 + 1 + 1 then
   (X_X6_howMany_1 M).bind fun z1 =>
   some (z1.1, z1.2)
  else if wI v1 = 0 + 1 + 1 + 1 + 1 + 1 + 1 + 1 then
   (X_X6_howMany_4 M).bind fun z1 =>
   some (z1.1, z1.2)
  else if wI v1 = 0 + 1 + 1 + 1 + 1 + 1 + 1 + 1 + 1 then
   (X_X8_keptLands_0 M).bind fun z1 =>
   some (z1.1, z1.2)
  else some ((-1), M)
set_option maxRecDepth 100000 in
theorem dc_X8_count_0 (v1 : Int) (M M' : am_M) (x : Int) (h : X_X8_count_0 v1 M = some (x, M')) : am_Calls 150 [.inr (.inr (some 0)), .inl v1] SH M (am_rv (am_rk 150) x) SH M' :=
  vCall (F := F_X8_count_0) (C := fun _ _ _ _ => none) (fu := 13) ok_X8_count pn_X8_count ml_X8_count rfl (Nat.le_of_ble_eq_true rfl) fs_X8_count_0 (fun _ _ _ _ h => by cases h) h
end
section
noncomputable def X_X8_finding_0 (M : am_M) : am_Rs :=
  some (M 0 12, M)
set_option maxRecDepth 100000 in
theorem dc_X8_finding_0 (M M' : am_M) (x : Int) (h : X_X8_finding_0 M = some (x, M')) : am_Calls 151 [.inr (.inr (some 0))] SH M (am_rv (am_rk 151) x) SH M' :=
  vCall (F := F_none) (C := fun _ _ _ _ => none) (fu := 3) ok_X8_finding pn_X8_finding ml_X8_finding rfl (Nat.le_of_ble_eq_true rfl) fs_none (fun _ _ _ _ h => by cases h) h
noncomputable def X_X8_findings_0 (v1 : Int) (M : am_M) : am_Rs :=
  if wI v1 < 1 then
   some ((-1), M)
  else if 5 < wI v1 then
   some ((-1), M)
  else if 0 ≤ wI v1 ∧ wI v1 < 6 then
  some (M 52 (wI v1).toNat, M)
  else none
set_option maxRecDepth 100000 in
theorem dc_X8_findings_0 (v1 : Int) (M M' : am_M) (x : Int) (h : X_X8_findings_0 v1 M = some (x, M')) : am_Calls 152 [.inr (.inr (some 0)), .inl v1] SH M (am_rv (am_rk 152) x) SH M' :=
  vCall (F := F_none) (C := fun _ _ _ _ => none) (fu := 6) ok_X8_findings pn_X8_findings ml_X8_findings rfl (Nat.le_of_ble_eq_true rfl) fs_none (fun _ _ _ _ h => by cases h) h
noncomputable def F_X6_digestOnto_1 : Nat → List am_V → am_M → am_Rs := fun k as M => if k = 83 then (match as with
  | [.inr (.inr (some 1)), .inl a1] => X_X6_sizeOf_1 a1 M
  | _ => none) else if k = 88 then (match as with
  | [.inr (.inr (some 1)), .inl a1, .inl a2] => X_X6_get_1 a1 a2 M
  | _ => none) else none
theorem fs_X6_digestOnto_1 : am_FS SH F_X6_digestOnto_1 := by
  intro k as M x M' h
  unfold F_X6_digestOnto_1 at h
  split at h
  · rename_i hk; subst hk
    split at h
    · exact dc_X6_sizeOf_1 _ _ _ _ h
    · cases h
  split at h
  · rename_i hk; subst hk
    split at h
    · exact dc_X6_get_1 _ _ _ _ _ h
    · cases h
  cases h
noncomputable def XB_X6_digestOnto_1_1 (c3 : Int → Int → Int → am_M → am_Rs) (c6 : Int → am_M → am_Rs) (v1 v3 : Int) (M : am_M) : am_Rs :=
  if wI v3 < wI (M 1 0) then
   (X_X6_sizeOf_1 v3 M).bind fun z1 =>
   c3 ((31 * v1) + (wI z1.1)) v3 0 z1.2
  else c6 v1 M
set_option maxRecDepth 100000 in
theorem rs_X6_digestOnto_1_1 {x : Int} {M' : am_M} {c3 : Int → Int → Int → am_M → am_Rs} {c6 : Int → am_M → am_Rs} (h3 : ∀ w1 w3 w4 M, c3 w1 w3 w4 M = some (x, M') → am_R none 94 bk_X6_digestOnto 3 (am_wr [4, 2, 0, 1, 1] [w1, w3, w4]) [] SH M (am_rv (am_rk 94) x) SH M') (h6 : ∀ w1 M, c6 w1 M = some (x, M') → am_R none 94 bk_X6_digestOnto 6 (am_wr [0, 2, 0, 0, 0] [w1]) [] SH M (am_rv (am_rk 94) x) SH M') (v1 v3 : Int) (M : am_M) (h : XB_X6_digestOnto_1_1 c3 c6 v1 v3 M = some (x, M')) : am_R none 94 bk_X6_digestOnto 1 (am_wr [4, 2, 0, 1, 0] [v1, v3]) [] SH M (am_rv (am_rk 94) x) SH M' :=
  vRegion (sc := none) (sh := SH) (F := F_X6_digestOnto_1) (k := 94) (bs := bk_X6_digestOnto) (r := (x, M')) (C := fun t lv st M => if t = 3 then vCt [4, 2, 0, 1, 1] (un3 c3) lv st M else if t = 6 then vCt [0, 2, 0, 0, 0] (un1 c6) lv st M else none) ok_X6_digestOnto fs_X6_digestOnto_1 (fun t lv st M h => by
    split at h
    · rename_i e; subst e; exact vCt_s (un3_s h3) h
    split at h
    · rename_i e; subst e; exact vCt_s (un1_s h6) h
    cases h) 9 1 (am_wr [4, 2, 0, 1, 0] [v1, v3]) [] M h
noncomputable def XB_X6_digestOnto_1_3 (c3 : Int → Int → Int → am_M → am_Rs) (c5 : Int → Int → am_M → am_Rs) (v1 v3 v4 : Int) (M : am_M) : am_Rs :=
  (X_X6_sizeOf_1 v3 M).bind fun z1 =>
  if wI v4 < wI z1.1 then
   (X_X6_get_1 v3 v4 z1.2).bind fun z2 =>
   c3 ((31 * v1) + (wI z2.1)) v3 (v4 + 1) z2.2
  else c5 v1 v3 z1.2
set_option maxRecDepth 100000 in
theorem rs_X6_digestOnto_1_3 {x : Int} {M' : am_M} {c3 : Int → Int → Int → am_M → am_Rs} {c5 : Int → Int → am_M → am_Rs} (h3 : ∀ w1 w3 w4 M, c3 w1 w3 w4 M = some (x, M') → am_R none 94 bk_X6_digestOnto 3 (am_wr [4, 2, 0, 1, 1] [w1, w3, w4]) [] SH M (am_rv (am_rk 94) x) SH M') (h5 : ∀ w1 w3 M, c5 w1 w3 M = some (x, M') → am_R none 94 bk_X6_digestOnto 5 (am_wr [4, 2, 0, 1, 0] [w1, w3]) [] SH M (am_rv (am_rk 94) x) SH M') (v1 v3 v4 : Int) (M : am_M) (h : XB_X6_digestOnto_1_3 c3 c5 v1 v3 v4 M = some (x, M')) : am_R none 94 bk_X6_digestOnto 3 (am_wr [4, 2, 0, 1, 1] [v1, v3, v4]) [] SH M (am_rv (am_rk 94) x) SH M' :=
  vRegion (sc := none) (sh := SH) (F := F_X6_digestOnto_1) (k := 94) (bs := bk_X6_digestOnto) (r := (x, M')) (C := fun t lv st M => if t = 3 then vCt [4, 2, 0, 1, 1] (un3 c3) lv st M else if t = 5 then vCt [4, 2, 0, 1, 0] (un2 c5) lv st M else none) ok_X6_digestOnto fs_X6_digestOnto_1 (fun t lv st M h => by
    split at h
    · rename_i e; subst e; exact vCt_s (un3_s h3) h
    split at h
    · rename_i e; subst e; exact vCt_s (un2_s h5) h
    cases h) 9 3 (am_wr [4, 2, 0, 1, 1] [v1, v3, v4]) [] M h
noncomputable def XB_X6_digestOnto_1_6 (v1 : Int) (M : am_M) : am_Rs :=
  some (v1, M)
set_option maxRecDepth 100000 in
theorem rs_X6_digestOnto_1_6 {x : Int} {M' : am_M} (v1 : Int) (M : am_M) (h : XB_X6_digestOnto_1_6 v1 M = some (x, M')) : am_R none 94 bk_X6_digestOnto 6 (am_wr [0, 2, 0, 0, 0] [v1]) [] SH M (am_rv (am_rk 94) x) SH M' :=
  vRegion (sc := none) (sh := SH) (F := F_X6_digestOnto_1) (k := 94) (bs := bk_X6_digestOnto) (r := (x, M')) (C := fun t lv st M => none) ok_X6_digestOnto fs_X6_digestOnto_1 (fun t lv st M h => by
    cases h) 9 6 (am_wr [0, 2, 0, 0, 0] [v1]) [] M h
noncomputable def XB_X6_digestOnto_1_5 (c1 : Int → Int → am_M → am_Rs) (v1 v3 : Int) (M : am_M) : am_Rs :=
  c1 v1 (v3 + 1) M
set_option maxRecDepth 100000 in
theorem rs_X6_digestOnto_1_5 {x : Int} {M' : am_M} {c1 : Int → Int → am_M → am_Rs} (h1 : ∀ w1 w3 M, c1 w1 w3 M = some (x, M') → am_R none 94 bk_X6_digestOnto 1 (am_wr [4, 2, 0, 1, 0] [w1, w3]) [] SH M (am_rv (am_rk 94) x) SH M') (v1 v3 : Int) (M : am_M) (h : XB_X6_digestOnto_1_5 c1 v1 v3 M = some (x, M')) : am_R none 94 bk_X6_digestOnto 5 (am_wr [4, 2, 0, 1, 0] [v1, v3]) [] SH M (am_rv (am_rk 94) x) SH M' :=
  vRegion (sc := none) (sh := SH) (F := F_X6_digestOnto_1) (k := 94) (bs := bk_X6_digestOnto) (r := (x, M')) (C := fun t lv st M => if t = 1 then vCt [4, 2, 0, 1, 0] (un2 c1) lv st M else none) ok_X6_digestOnto fs_X6_digestOnto_1 (fun t lv st M h => by
    split at h
    · rename_i e; subst e; exact vCt_s (un2_s h1) h
    cases h) 9 5 (am_wr [4, 2, 0, 1, 0] [v1, v3]) [] M h
noncomputable def XB_X6_digestOnto_1_e (c1 : Int → Int → am_M → am_Rs) (v1 : Int) (M : am_M) : am_Rs :=
  c1 v1 0 M
set_option maxRecDepth 100000 in
theorem rs_X6_digestOnto_1_e {x : Int} {M' : am_M} {c1 : Int → Int → am_M → am_Rs} (h1 : ∀ w1 w3 M, c1 w1 w3 M = some (x, M') → am_R none 94 bk_X6_digestOnto 1 (am_wr [4, 2, 0, 1, 0] [w1, w3]) [] SH M (am_rv (am_rk 94) x) SH M') (v1 : Int) (M : am_M) (h : XB_X6_digestOnto_1_e c1 v1 M = some (x, M')) : am_R none 94 bk_X6_digestOnto 0 (am_ent 5 [.inr (.inr (some 1)), .inr (.inl v1)]) [] SH M (am_rv (am_rk 94) x) SH M' :=
  vRegion (sc := none) (sh := SH) (F := F_X6_digestOnto_1) (k := 94) (bs := bk_X6_digestOnto) (r := (x, M')) (C := fun t lv st M => if t = 1 then vCt [4, 2, 0, 1, 0] (un2 c1) lv st M else none) ok_X6_digestOnto fs_X6_digestOnto_1 (fun t lv st M h => by
    split at h
    · rename_i e; subst e; exact vCt_s (un2_s h1) h
    cases h) 9 0 (am_ent 5 [.inr (.inr (some 1)), .inr (.inl v1)]) [] M h
noncomputable def XL_X6_digestOnto_1_3 (k5 : Int → Int → am_M → am_Rs) : Nat → Int → Int → Int → am_M → am_Rs
  | 0, _, _, _, _ => none
  | n + 1, v1, v3, v4, M => XB_X6_digestOnto_1_3 (XL_X6_digestOnto_1_3 k5 n) k5 v1 v3 v4 M
theorem ls_X6_digestOnto_1_3 {x : Int} {M' : am_M} {k5 : Int → Int → am_M → am_Rs} (hk5 : ∀ w1 w3 M, k5 w1 w3 M = some (x, M') → am_R none 94 bk_X6_digestOnto 5 (am_wr [4, 2, 0, 1, 0] [w1, w3]) [] SH M (am_rv (am_rk 94) x) SH M') : ∀ (n : Nat) (v1 v3 v4 : Int) (M : am_M), XL_X6_digestOnto_1_3 k5 n v1 v3 v4 M = some (x, M') → am_R none 94 bk_X6_digestOnto 3 (am_wr [4, 2, 0, 1, 1] [v1, v3, v4]) [] SH M (am_rv (am_rk 94) x) SH M'
  | 0, v1, v3, v4, M, h => by cases h
  | n + 1, v1, v3, v4, M, h => rs_X6_digestOnto_1_3 (ls_X6_digestOnto_1_3 hk5 n) hk5 v1 v3 v4 M h
noncomputable def XL_X6_digestOnto_1_1 (k6 : Int → am_M → am_Rs) : Nat → Int → Int → am_M → am_Rs
  | 0, _, _, _ => none
  | n + 1, v1, v3, M => XB_X6_digestOnto_1_1 (XL_X6_digestOnto_1_3 (XB_X6_digestOnto_1_5 (XL_X6_digestOnto_1_1 k6 n)) 1000) k6 v1 v3 M
theorem ls_X6_digestOnto_1_1 {x : Int} {M' : am_M} {k6 : Int → am_M → am_Rs} (hk6 : ∀ w1 M, k6 w1 M = some (x, M') → am_R none 94 bk_X6_digestOnto 6 (am_wr [0, 2, 0, 0, 0] [w1]) [] SH M (am_rv (am_rk 94) x) SH M') : ∀ (n : Nat) (v1 v3 : Int) (M : am_M), XL_X6_digestOnto_1_1 k6 n v1 v3 M = some (x, M') → am_R none 94 bk_X6_digestOnto 1 (am_wr [4, 2, 0, 1, 0] [v1, v3]) [] SH M (am_rv (am_rk 94) x) SH M'
  | 0, v1, v3, M, h => by cases h
  | n + 1, v1, v3, M, h => rs_X6_digestOnto_1_1 (ls_X6_digestOnto_1_3 (rs_X6_digestOnto_1_5 (ls_X6_digestOnto_1_1 hk6 n)) 1000) hk6 v1 v3 M h
noncomputable def X_X6_digestOnto_1 (v1 : Int) (M : am_M) : am_Rs := XB_X6_digestOnto_1_e (XL_X6_digestOnto_1_1 (XB_X6_digestOnto_1_6) 1000) v1 M
theorem dc_X6_digestOnto_1 (v1 : Int) (M M' : am_M) (x : Int) (h : X_X6_digestOnto_1 v1 M = some (x, M')) : am_Calls 94 [.inr (.inr (some 1)), .inr (.inl v1)] SH M (am_rv (am_rk 94) x) SH M' :=
  am_enter pn_X6_digestOnto ml_X6_digestOnto rfl (Nat.le_of_ble_eq_true rfl) ⟨Nat.le_refl _, Nat.le_refl _⟩ (rs_X6_digestOnto_1_e (ls_X6_digestOnto_1_1 (rs_X6_digestOnto_1_6) 1000) v1 M h)
noncomputable def F_X6_digestOnto_4 : Nat → List am_V → am_M → am_Rs := fun k as M => if k = 83 then (match as with
  | [.inr (.inr (some 4)), .inl a1] => X_X6_sizeOf_4 a1 M
  | _ => none) else if k = 88 then (match as with
  | [.inr (.inr (some 4)), .inl a1, .inl a2] => X_X6_get_4 a1 a2 M
  | _ => none) else none
theorem fs_X6_digestOnto_4 : am_FS SH F_X6_digestOnto_4 := by
  intro k as M x M' h
  unfold F_X6_digestOnto_4 at h
  split at h
  · rename_i hk; subst hk
    split at h
    · exact dc_X6_sizeOf_4 _ _ _ _ h
    · cases h
  split at h
  · rename_i hk; subst hk
    split at h
    · exact dc_X6_get_4 _ _ _ _ _ h
    · cases h
  cases h
noncomputable def XB_X6_digestOnto_4_1 (c3 : Int → Int → Int → am_M → am_Rs) (c6 : Int → am_M → am_Rs) (v1 v3 : Int) (M : am_M) : am_Rs :=
  if wI v3 < wI (M 4 0) then
   (X_X6_sizeOf_4 v3 M).bind fun z1 =>
   c3 ((31 * v1) + (wI z1.1)) v3 0 z1.2
  else c6 v1 M
set_option maxRecDepth 100000 in
theorem rs_X6_digestOnto_4_1 {x : Int} {M' : am_M} {c3 : Int → Int → Int → am_M → am_Rs} {c6 : Int → am_M → am_Rs} (h3 : ∀ w1 w3 w4 M, c3 w1 w3 w4 M = some (x, M') → am_R none 94 bk_X6_digestOnto 3 (am_wr [7, 2, 0, 1, 1] [w1, w3, w4]) [] SH M (am_rv (am_rk 94) x) SH M') (h6 : ∀ w1 M, c6 w1 M = some (x, M') → am_R none 94 bk_X6_digestOnto 6 (am_wr [0, 2, 0, 0, 0] [w1]) [] SH M (am_rv (am_rk 94) x) SH M') (v1 v3 : Int) (M : am_M) (h : XB_X6_digestOnto_4_1 c3 c6 v1 v3 M = some (x, M')) : am_R none 94 bk_X6_digestOnto 1 (am_wr [7, 2, 0, 1, 0] [v1, v3]) [] SH M (am_rv (am_rk 94) x) SH M' :=
  vRegion (sc := none) (sh := SH) (F := F_X6_digestOnto_4) (k := 94) (bs := bk_X6_digestOnto) (r := (x, M')) (C := fun t lv st M => if t = 3 then vCt [7, 2, 0, 1, 1] (un3 c3) lv st M else if t = 6 then vCt [0, 2, 0, 0, 0] (un1 c6) lv st M else none) ok_X6_digestOnto fs_X6_digestOnto_4 (fun t lv st M h => by
    split at h
    · rename_i e; subst e; exact vCt_s (un3_s h3) h
    split at h
    · rename_i e; subst e; exact vCt_s (un1_s h6) h
    cases h) 9 1 (am_wr [7, 2, 0, 1, 0] [v1, v3]) [] M h
noncomputable def XB_X6_digestOnto_4_3 (c3 : Int → Int → Int → am_M → am_Rs) (c5 : Int → Int → am_M → am_Rs) (v1 v3 v4 : Int) (M : am_M) : am_Rs :=
  (X_X6_sizeOf_4 v3 M).bind fun z1 =>
  if wI v4 < wI z1.1 then
   (X_X6_get_4 v3 v4 z1.2).bind fun z2 =>
   c3 ((31 * v1) + (wI z2.1)) v3 (v4 + 1) z2.2
  else c5 v1 v3 z1.2
set_option maxRecDepth 100000 in
theorem rs_X6_digestOnto_4_3 {x : Int} {M' : am_M} {c3 : Int → Int → Int → am_M → am_Rs} {c5 : Int → Int → am_M → am_Rs} (h3 : ∀ w1 w3 w4 M, c3 w1 w3 w4 M = some (x, M') → am_R none 94 bk_X6_digestOnto 3 (am_wr [7, 2, 0, 1, 1] [w1, w3, w4]) [] SH M (am_rv (am_rk 94) x) SH M') (h5 : ∀ w1 w3 M, c5 w1 w3 M = some (x, M') → am_R none 94 bk_X6_digestOnto 5 (am_wr [7, 2, 0, 1, 0] [w1, w3]) [] SH M (am_rv (am_rk 94) x) SH M') (v1 v3 v4 : Int) (M : am_M) (h : XB_X6_digestOnto_4_3 c3 c5 v1 v3 v4 M = some (x, M')) : am_R none 94 bk_X6_digestOnto 3 (am_wr [7, 2, 0, 1, 1] [v1, v3, v4]) [] SH M (am_rv (am_rk 94) x) SH M' :=
  vRegion (sc := none) (sh := SH) (F := F_X6_digestOnto_4) (k := 94) (bs := bk_X6_digestOnto) (r := (x, M')) (C := fun t lv st M => if t = 3 then vCt [7, 2, 0, 1, 1] (un3 c3) lv st M else if t = 5 then vCt [7, 2, 0, 1, 0] (un2 c5) lv st M else none) ok_X6_digestOnto fs_X6_digestOnto_4 (fun t lv st M h => by
    split at h
    · rename_i e; subst e; exact vCt_s (un3_s h3) h
    split at h
    · rename_i e; subst e; exact vCt_s (un2_s h5) h
    cases h) 9 3 (am_wr [7, 2, 0, 1, 1] [v1, v3, v4]) [] M h
noncomputable def XB_X6_digestOnto_4_6 (v1 : Int) (M : am_M) : am_Rs :=
  some (v1, M)
set_option maxRecDepth 100000 in
theorem rs_X6_digestOnto_4_6 {x : Int} {M' : am_M} (v1 : Int) (M : am_M) (h : XB_X6_digestOnto_4_6 v1 M = some (x, M')) : am_R none 94 bk_X6_digestOnto 6 (am_wr [0, 2, 0, 0, 0] [v1]) [] SH M (am_rv (am_rk 94) x) SH M' :=
  vRegion (sc := none) (sh := SH) (F := F_X6_digestOnto_4) (k := 94) (bs := bk_X6_digestOnto) (r := (x, M')) (C := fun t lv st M => none) ok_X6_digestOnto fs_X6_digestOnto_4 (fun t lv st M h => by
    cases h) 9 6 (am_wr [0, 2, 0, 0, 0] [v1]) [] M h
noncomputable def XB_X6_digestOnto_4_5 (c1 : Int → Int → am_M → am_Rs) (v1 v3 : Int) (M : am_M) : am_Rs :=
  c1 v1 (v3 + 1) M
set_option maxRecDepth 100000 in
theorem rs_X6_digestOnto_4_5 {x : Int} {M' : am_M} {c1 : Int → Int → am_M → am_Rs} (h1 : ∀ w1 w3 M, c1 w1 w3 M = some (x, M') → am_R none 94 bk_X6_digestOnto 1 (am_wr [7, 2, 0, 1, 0] [w1, w3]) [] SH M (am_rv (am_rk 94) x) SH M') (v1 v3 : Int) (M : am_M) (h : XB_X6_digestOnto_4_5 c1 v1 v3 M = some (x, M')) : am_R none 94 bk_X6_digestOnto 5 (am_wr [7, 2, 0, 1, 0] [v1, v3]) [] SH M (am_rv (am_rk 94) x) SH M' :=
  vRegion (sc := none) (sh := SH) (F := F_X6_digestOnto_4) (k := 94) (bs := bk_X6_digestOnto) (r := (x, M')) (C := fun t lv st M => if t = 1 then vCt [7, 2, 0, 1, 0] (un2 c1) lv st M else none) ok_X6_digestOnto fs_X6_digestOnto_4 (fun t lv st M h => by
    split at h
    · rename_i e; subst e; exact vCt_s (un2_s h1) h
    cases h) 9 5 (am_wr [7, 2, 0, 1, 0] [v1, v3]) [] M h
noncomputable def XB_X6_digestOnto_4_e (c1 : Int → Int → am_M → am_Rs) (v1 : Int) (M : am_M) : am_Rs :=
  c1 v1 0 M
set_option maxRecDepth 100000 in
theorem rs_X6_digestOnto_4_e {x : Int} {M' : am_M} {c1 : Int → Int → am_M → am_Rs} (h1 : ∀ w1 w3 M, c1 w1 w3 M = some (x, M') → am_R none 94 bk_X6_digestOnto 1 (am_wr [7, 2, 0, 1, 0] [w1, w3]) [] SH M (am_rv (am_rk 94) x) SH M') (v1 : Int) (M : am_M) (h : XB_X6_digestOnto_4_e c1 v1 M = some (x, M')) : am_R none 94 bk_X6_digestOnto 0 (am_ent 5 [.inr (.inr (some 4)), .inr (.inl v1)]) [] SH M (am_rv (am_rk 94) x) SH M' :=
  vRegion (sc := none) (sh := SH) (F := F_X6_digestOnto_4) (k := 94) (bs := bk_X6_digestOnto) (r := (x, M')) (C := fun t lv st M => if t = 1 then vCt [7, 2, 0, 1, 0] (un2 c1) lv st M else none) ok_X6_digestOnto fs_X6_digestOnto_4 (fun t lv st M h => by
    split at h
    · rename_i e; subst e; exact vCt_s (un2_s h1) h
    cases h) 9 0 (am_ent 5 [.inr (.inr (some 4)), .inr (.inl v1)]) [] M h
noncomputable def XL_X6_digestOnto_4_3 (k5 : Int → Int → am_M → am_Rs) : Nat → Int → Int → Int → am_M → am_Rs
  | 0, _, _, _, _ => none
  | n + 1, v1, v3, v4, M => XB_X6_digestOnto_4_3 (XL_X6_digestOnto_4_3 k5 n) k5 v1 v3 v4 M
theorem ls_X6_digestOnto_4_3 {x : Int} {M' : am_M} {k5 : Int → Int → am_M → am_Rs} (hk5 : ∀ w1 w3 M, k5 w1 w3 M = some (x, M') → am_R none 94 bk_X6_digestOnto 5 (am_wr [7, 2, 0, 1, 0] [w1, w3]) [] SH M (am_rv (am_rk 94) x) SH M') : ∀ (n : Nat) (v1 v3 v4 : Int) (M : am_M), XL_X6_digestOnto_4_3 k5 n v1 v3 v4 M = some (x, M') → am_R none 94 bk_X6_digestOnto 3 (am_wr [7, 2, 0, 1, 1] [v1, v3, v4]) [] SH M (am_rv (am_rk 94) x) SH M'
  | 0, v1, v3, v4, M, h => by cases h
  | n + 1, v1, v3, v4, M, h => rs_X6_digestOnto_4_3 (ls_X6_digestOnto_4_3 hk5 n) hk5 v1 v3 v4 M h
noncomputable def XL_X6_digestOnto_4_1 (k6 : Int → am_M → am_Rs) : Nat → Int → Int → am_M → am_Rs
  | 0, _, _, _ => none
  | n + 1, v1, v3, M => XB_X6_digestOnto_4_1 (XL_X6_digestOnto_4_3 (XB_X6_digestOnto_4_5 (XL_X6_digestOnto_4_1 k6 n)) 1000) k6 v1 v3 M
theorem ls_X6_digestOnto_4_1 {x : Int} {M' : am_M} {k6 : Int → am_M → am_Rs} (hk6 : ∀ w1 M, k6 w1 M = some (x, M') → am_R none 94 bk_X6_digestOnto 6 (am_wr [0, 2, 0, 0, 0] [w1]) [] SH M (am_rv (am_rk 94) x) SH M') : ∀ (n : Nat) (v1 v3 : Int) (M : am_M), XL_X6_digestOnto_4_1 k6 n v1 v3 M = some (x, M') → am_R none 94 bk_X6_digestOnto 1 (am_wr [7, 2, 0, 1, 0] [v1, v3]) [] SH M (am_rv (am_rk 94) x) SH M'
  | 0, v1, v3, M, h => by cases h
  | n + 1, v1, v3, M, h => rs_X6_digestOnto_4_1 (ls_X6_digestOnto_4_3 (rs_X6_digestOnto_4_5 (ls_X6_digestOnto_4_1 hk6 n)) 1000) hk6 v1 v3 M h
noncomputable def X_X6_digestOnto_4 (v1 : Int) (M : am_M) : am_Rs := XB_X6_digestOnto_4_e (XL_X6_digestOnto_4_1 (XB_X6_digestOnto_4_6) 1000) v1 M
theorem dc_X6_digestOnto_4 (v1 : Int) (M M' : am_M) (x : Int) (h : X_X6_digestOnto_4 v1 M = some (x, M')) : am_Calls 94 [.inr (.inr (some 4)), .inr (.inl v1)] SH M (am_rv (am_rk 94) x) SH M' :=
  am_enter pn_X6_digestOnto ml_X6_digestOnto rfl (Nat.le_of_ble_eq_true rfl) ⟨Nat.le_refl _, Nat.le_refl _⟩ (rs_X6_digestOnto_4_e (ls_X6_digestOnto_4_1 (rs_X6_digestOnto_4_6) 1000) v1 M h)
noncomputable def F_X8_digest_0 : Nat → List am_V → am_M → am_Rs := fun k as M => if k = 94 then (match as with
  | [.inr (.inr (some 1)), .inr (.inl a1)] => X_X6_digestOnto_1 a1 M
  | [.inr (.inr (some 4)), .inr (.inl a1)] => X_X6_digestOnto_4 a1 M
  | _ => none) else if k = 150 then (match as with
  | [.inr (.inr (some 0)), .inl a1] => X_X8_count_0 a1 M
  | _ => none) else if k = 165 then (match as with
  | [.inr (.inr (some 0)), .inl a1, .inl a2] => X_X8_stripFact_0 a1 a2 M
  | _ => none) else none
theorem fs_X8_digest_0 : am_FS SH F_X8_digest_0 := by
  intro k as M x M' h
  unfold F_X8_digest_0 at h
  split at h
  · rename_i hk; subst hk
    split at h
    · exact dc_X6_digestOnto_1 _ _ _ _ h
    · exact dc_X6_digestOnto_4 _ _ _ _ h
    · cases h
  split at h
  · rename_i hk; subst hk
    split at h
    · exact dc_X8_count_0 _ _ _ _ h
    · cases h
  split at h
  · rename_i hk; subst hk
    split at h
    · exact dc_X8_stripFact_0 _ _ _ _ _ h
    · cases h
  cases h
noncomputable def XB_X8_digest_0_1 (c1 : Int → Int → am_M → am_Rs) (c3 : Int → am_M → am_Rs) (v1 v3 : Int) (M : am_M) : am_Rs :=
  if wI v3 < 9 then
   (X_X8_count_0 v3 M).bind fun z1 =>
   c1 ((31 * v1) + (wI z1.1)) (v3 + 1) z1.2
  else c3 v1 M
set_option maxRecDepth 100000 in
theorem rs_X8_digest_0_1 {x : Int} {M' : am_M} {c1 : Int → Int → am_M → am_Rs} {c3 : Int → am_M → am_Rs} (h1 : ∀ w1 w3 M, c1 w1 w3 M = some (x, M') → am_R none 153 bk_X8_digest 1 (am_wr [3, 2, 0, 1, 0] [w1, w3]) [] SH M (am_rv (am_rk 153) x) SH M') (h3 : ∀ w1 M, c3 w1 M = some (x, M') → am_R none 153 bk_X8_digest 3 (am_wr [3, 2, 0, 0, 0] [w1]) [] SH M (am_rv (am_rk 153) x) SH M') (v1 v3 : Int) (M : am_M) (h : XB_X8_digest_0_1 c1 c3 v1 v3 M = some (x, M')) : am_R none 153 bk_X8_digest 1 (am_wr [3, 2, 0, 1, 0] [v1, v3]) [] SH M (am_rv (am_rk 153) x) SH M' :=
  vRegion (sc := none) (sh := SH) (F := F_X8_digest_0) (k := 153) (bs := bk_X8_digest) (r := (x, M')) (C := fun t lv st M => if t = 1 then vCt [3, 2, 0, 1, 0] (un2 c1) lv st M else if t = 3 then vCt [3, 2, 0, 0, 0] (un1 c3) lv st M else none) ok_X8_digest fs_X8_digest_0 (fun t lv st M h => by
    split at h
    · rename_i e; subst e; exact vCt_s (un2_s h1) h
    split at h
    · rename_i e; subst e; exact vCt_s (un1_s h3) h
    cases h) 15 1 (am_wr [3, 2, 0, 1, 0] [v1, v3]) [] M h
noncomputable def XB_X8_digest_0_3 (c4 : Int → Int → am_M → am_Rs) (v1 : Int) (M : am_M) : am_Rs :=
  c4 ((31 * v1) + (wI (M 14 1))) 0 M
set_option maxRecDepth 100000 in
theorem rs_X8_digest_0_3 {x : Int} {M' : am_M} {c4 : Int → Int → am_M → am_Rs} (h4 : ∀ w1 w3 M, c4 w1 w3 M = some (x, M') → am_R none 153 bk_X8_digest 4 (am_wr [3, 2, 0, 1, 0] [w1, w3]) [] SH M (am_rv (am_rk 153) x) SH M') (v1 : Int) (M : am_M) (h : XB_X8_digest_0_3 c4 v1 M = some (x, M')) : am_R none 153 bk_X8_digest 3 (am_wr [3, 2, 0, 0, 0] [v1]) [] SH M (am_rv (am_rk 153) x) SH M' :=
  vRegion (sc := none) (sh := SH) (F := F_X8_digest_0) (k := 153) (bs := bk_X8_digest) (r := (x, M')) (C := fun t lv st M => if t = 4 then vCt [3, 2, 0, 1, 0] (un2 c4) lv st M else none) ok_X8_digest fs_X8_digest_0 (fun t lv st M h => by
    split at h
    · rename_i e; subst e; exact vCt_s (un2_s h4) h
    cases h) 15 3 (am_wr [3, 2, 0, 0, 0] [v1]) [] M h
noncomputable def XB_X8_digest_0_4 (c6 : Int → Int → Int → am_M → am_Rs) (c9 : Int → am_M → am_Rs) (v1 v3 : Int) (M : am_M) : am_Rs :=
  if wI v3 < wI (M 11 0) then
   c6 v1 v3 0 M
  else c9 v1 M
set_option maxRecDepth 100000 in
theorem rs_X8_digest_0_4 {x : Int} {M' : am_M} {c6 : Int → Int → Int → am_M → am_Rs} {c9 : Int → am_M → am_Rs} (h6 : ∀ w1 w3 w4 M, c6 w1 w3 w4 M = some (x, M') → am_R none 153 bk_X8_digest 6 (am_wr [3, 2, 0, 1, 1] [w1, w3, w4]) [] SH M (am_rv (am_rk 153) x) SH M') (h9 : ∀ w1 M, c9 w1 M = some (x, M') → am_R none 153 bk_X8_digest 9 (am_wr [3, 2, 0, 0, 0] [w1]) [] SH M (am_rv (am_rk 153) x) SH M') (v1 v3 : Int) (M : am_M) (h : XB_X8_digest_0_4 c6 c9 v1 v3 M = some (x, M')) : am_R none 153 bk_X8_digest 4 (am_wr [3, 2, 0, 1, 0] [v1, v3]) [] SH M (am_rv (am_rk 153) x) SH M' :=
  vRegion (sc := none) (sh := SH) (F := F_X8_digest_0) (k := 153) (bs := bk_X8_digest) (r := (x, M')) (C := fun t lv st M => if t = 6 then vCt [3, 2, 0, 1, 1] (un3 c6) lv st M else if t = 9 then vCt [3, 2, 0, 0, 0] (un1 c9) lv st M else none) ok_X8_digest fs_X8_digest_0 (fun t lv st M h => by
    split at h
    · rename_i e; subst e; exact vCt_s (un3_s h6) h
    split at h
    · rename_i e; subst e; exact vCt_s (un1_s h9) h
    cases h) 15 4 (am_wr [3, 2, 0, 1, 0] [v1, v3]) [] M h
noncomputable def XB_X8_digest_0_6 (c6 : Int → Int → Int → am_M → am_Rs) (c8 : Int → Int → am_M → am_Rs) (v1 v3 v4 : Int) (M : am_M) : am_Rs :=
  if wI v4 < 6 then
   (X_X8_stripFact_0 v3 v4 M).bind fun z1 =>
   c6 ((31 * v1) + (wI z1.1)) v3 (v4 + 1) z1.2
  else c8 v1 v3 M
set_option maxRecDepth 100000 in
theorem rs_X8_digest_0_6 {x : Int} {M' : am_M} {c6 : Int → Int → Int → am_M → am_Rs} {c8 : Int → Int → am_M → am_Rs} (h6 : ∀ w1 w3 w4 M, c6 w1 w3 w4 M = some (x, M') → am_R none 153 bk_X8_digest 6 (am_wr [3, 2, 0, 1, 1] [w1, w3, w4]) [] SH M (am_rv (am_rk 153) x) SH M') (h8 : ∀ w1 w3 M, c8 w1 w3 M = some (x, M') → am_R none 153 bk_X8_digest 8 (am_wr [3, 2, 0, 1, 0] [w1, w3]) [] SH M (am_rv (am_rk 153) x) SH M') (v1 v3 v4 : Int) (M : am_M) (h : XB_X8_digest_0_6 c6 c8 v1 v3 v4 M = some (x, M')) : am_R none 153 bk_X8_digest 6 (am_wr [3, 2, 0, 1, 1] [v1, v3, v4]) [] SH M (am_rv (am_rk 153) x) SH M' :=
  vRegion (sc := none) (sh := SH) (F := F_X8_digest_0) (k := 153) (bs := bk_X8_digest) (r := (x, M')) (C := fun t lv st M => if t = 6 then vCt [3, 2, 0, 1, 1] (un3 c6) lv st M else if t = 8 then vCt [3, 2, 0, 1, 0] (un2 c8) lv st M else none) ok_X8_digest fs_X8_digest_0 (fun t lv st M h => by
    split at h
    · rename_i e; subst e; exact vCt_s (un3_s h6) h
    split at h
    · rename_i e; subst e; exact vCt_s (un2_s h8) h
    cases h) 15 6 (am_wr [3, 2, 0, 1, 1] [v1, v3, v4]) [] M h
noncomputable def XB_X8_digest_0_9 (c10 : Int → Int → am_M → am_Rs) (v1 : Int) (M : am_M) : am_Rs :=
  c10 v1 0 M
set_option maxRecDepth 100000 in
theorem rs_X8_digest_0_9 {x : Int} {M' : am_M} {c10 : Int → Int → am_M → am_Rs} (h10 : ∀ w1 w3 M, c10 w1 w3 M = some (x, M') → am_R none 153 bk_X8_digest 10 (am_wr [3, 2, 0, 1, 0] [w1, w3]) [] SH M (am_rv (am_rk 153) x) SH M') (v1 : Int) (M : am_M) (h : XB_X8_digest_0_9 c10 v1 M = some (x, M')) : am_R none 153 bk_X8_digest 9 (am_wr [3, 2, 0, 0, 0] [v1]) [] SH M (am_rv (am_rk 153) x) SH M' :=
  vRegion (sc := none) (sh := SH) (F := F_X8_digest_0) (k := 153) (bs := bk_X8_digest) (r := (x, M')) (C := fun t lv st M => if t = 10 then vCt [3, 2, 0, 1, 0] (un2 c10) lv st M else none) ok_X8_digest fs_X8_digest_0 (fun t lv st M h => by
    split at h
    · rename_i e; subst e; exact vCt_s (un2_s h10) h
    cases h) 15 9 (am_wr [3, 2, 0, 0, 0] [v1]) [] M h
noncomputable def XB_X8_digest_0_8 (c4 : Int → Int → am_M → am_Rs) (v1 v3 : Int) (M : am_M) : am_Rs :=
  c4 v1 (v3 + 1) M
set_option maxRecDepth 100000 in
theorem rs_X8_digest_0_8 {x : Int} {M' : am_M} {c4 : Int → Int → am_M → am_Rs} (h4 : ∀ w1 w3 M, c4 w1 w3 M = some (x, M') → am_R none 153 bk_X8_digest 4 (am_wr [3, 2, 0, 1, 0] [w1, w3]) [] SH M (am_rv (am_rk 153) x) SH M') (v1 v3 : Int) (M : am_M) (h : XB_X8_digest_0_8 c4 v1 v3 M = some (x, M')) : am_R none 153 bk_X8_digest 8 (am_wr [3, 2, 0, 1, 0] [v1, v3]) [] SH M (am_rv (am_rk 153) x) SH M' :=
  vRegion (sc := none) (sh := SH) (F := F_X8_digest_0) (k := 153) (bs := bk_X8_digest) (r := (x, M')) (C := fun t lv st M => if t = 4 then vCt [3, 2, 0, 1, 0] (un2 c4) lv st M else none) ok_X8_digest fs_X8_digest_0 (fun t lv st M h => by
    split at h
    · rename_i e; subst e; exact vCt_s (un2_s h4) h
    cases h) 15 8 (am_wr [3, 2, 0, 1, 0] [v1, v3]) [] M h
noncomputable def XB_X8_digest_0_10 (c10 : Int → Int → am_M → am_Rs) (c12 : Int → am_M → am_Rs) (v1 v3 : Int) (M : am_M) : am_Rs :=
  if wI v3 < 3 then
   if 0 ≤ wI v3 ∧ wI v3 < 3 then
   c10 ((31 * v1) + (wI (M 35 (wI v3).toNat))) (v3 + 1) M
   else none
  else c12 v1 M
set_option maxRecDepth 100000 in
theorem rs_X8_digest_0_10 {x : Int} {M' : am_M} {c10 : Int → Int → am_M → am_Rs} {c12 : Int → am_M → am_Rs} (h10 : ∀ w1 w3 M, c10 w1 w3 M = some (x, M') → am_R none 153 bk_X8_digest 10 (am_wr [3, 2, 0, 1, 0] [w1, w3]) [] SH M (am_rv (am_rk 153) x) SH M') (h12 : ∀ w1 M, c12 w1 M = some (x, M') → am_R none 153 bk_X8_digest 12 (am_wr [3, 2, 0, 0, 0] [w1]) [] SH M (am_rv (am_rk 153) x) SH M') (v1 v3 : Int) (M : am_M) (h : XB_X8_digest_0_10 c10 c12 v1 v3 M = some (x, M')) : am_R none 153 bk_X8_digest 10 (am_wr [3, 2, 0, 1, 0] [v1, v3]) [] SH M (am_rv (am_rk 153) x) SH M' :=
  vRegion (sc := none) (sh := SH) (F := F_X8_digest_0) (k := 153) (bs := bk_X8_digest) (r := (x, M')) (C := fun t lv st M => if t = 10 then vCt [3, 2, 0, 1, 0] (un2 c10) lv st M else if t = 12 then vCt [3, 2, 0, 0, 0] (un1 c12) lv st M else none) ok_X8_digest fs_X8_digest_0 (fun t lv st M h => by
    split at h
    · rename_i e; subst e; exact vCt_s (un2_s h10) h
    split at h
    · rename_i e; subst e; exact vCt_s (un1_s h12) h
    cases h) 15 10 (am_wr [3, 2, 0, 1, 0] [v1, v3]) [] M h
noncomputable def XB_X8_digest_0_12 (v1 : Int) (M : am_M) : am_Rs :=
  (X_X6_digestOnto_1 v1 M).bind fun z1 =>
  (X_X6_digestOnto_4 z1.1 z1.2).bind fun z2 =>
  some (z2.1, z2.2)
set_option maxRecDepth 100000 in
theorem rs_X8_digest_0_12 {x : Int} {M' : am_M} (v1 : Int) (M : am_M) (h : XB_X8_digest_0_12 v1 M = some (x, M')) : am_R none 153 bk_X8_digest 12 (am_wr [3, 2, 0, 0, 0] [v1]) [] SH M (am_rv (am_rk 153) x) SH M' :=
  vRegion (sc := none) (sh := SH) (F := F_X8_digest_0) (k := 153) (bs := bk_X8_digest) (r := (x, M')) (C := fun t lv st M => none) ok_X8_digest fs_X8_digest_0 (fun t lv st M h => by
    cases h) 15 12 (am_wr [3, 2, 0, 0, 0] [v1]) [] M h
noncomputable def XB_X8_digest_0_e (c1 : Int → Int → am_M → am_Rs) (M : am_M) : am_Rs :=
  c1 17 0 M
set_option maxRecDepth 100000 in
theorem rs_X8_digest_0_e {x : Int} {M' : am_M} {c1 : Int → Int → am_M → am_Rs} (h1 : ∀ w1 w3 M, c1 w1 w3 M = some (x, M') → am_R none 153 bk_X8_digest 1 (am_wr [3, 2, 0, 1, 0] [w1, w3]) [] SH M (am_rv (am_rk 153) x) SH M') (M : am_M) (h : XB_X8_digest_0_e c1 M = some (x, M')) : am_R none 153 bk_X8_digest 0 (am_ent 5 [.inr (.inr (some 0))]) [] SH M (am_rv (am_rk 153) x) SH M' :=
  vRegion (sc := none) (sh := SH) (F := F_X8_digest_0) (k := 153) (bs := bk_X8_digest) (r := (x, M')) (C := fun t lv st M => if t = 1 then vCt [3, 2, 0, 1, 0] (un2 c1) lv st M else none) ok_X8_digest fs_X8_digest_0 (fun t lv st M h => by
    split at h
    · rename_i e; subst e; exact vCt_s (un2_s h1) h
    cases h) 15 0 (am_ent 5 [.inr (.inr (some 0))]) [] M h
noncomputable def XL_X8_digest_0_1 (k3 : Int → am_M → am_Rs) : Nat → Int → Int → am_M → am_Rs
  | 0, _, _, _ => none
  | n + 1, v1, v3, M => XB_X8_digest_0_1 (XL_X8_digest_0_1 k3 n) k3 v1 v3 M
theorem ls_X8_digest_0_1 {x : Int} {M' : am_M} {k3 : Int → am_M → am_Rs} (hk3 : ∀ w1 M, k3 w1 M = some (x, M') → am_R none 153 bk_X8_digest 3 (am_wr [3, 2, 0, 0, 0] [w1]) [] SH M (am_rv (am_rk 153) x) SH M') : ∀ (n : Nat) (v1 v3 : Int) (M : am_M), XL_X8_digest_0_1 k3 n v1 v3 M = some (x, M') → am_R none 153 bk_X8_digest 1 (am_wr [3, 2, 0, 1, 0] [v1, v3]) [] SH M (am_rv (am_rk 153) x) SH M'
  | 0, v1, v3, M, h => by cases h
  | n + 1, v1, v3, M, h => rs_X8_digest_0_1 (ls_X8_digest_0_1 hk3 n) hk3 v1 v3 M h
noncomputable def XL_X8_digest_0_6 (k8 : Int → Int → am_M → am_Rs) : Nat → Int → Int → Int → am_M → am_Rs
  | 0, _, _, _, _ => none
  | n + 1, v1, v3, v4, M => XB_X8_digest_0_6 (XL_X8_digest_0_6 k8 n) k8 v1 v3 v4 M
theorem ls_X8_digest_0_6 {x : Int} {M' : am_M} {k8 : Int → Int → am_M → am_Rs} (hk8 : ∀ w1 w3 M, k8 w1 w3 M = some (x, M') → am_R none 153 bk_X8_digest 8 (am_wr [3, 2, 0, 1, 0] [w1, w3]) [] SH M (am_rv (am_rk 153) x) SH M') : ∀ (n : Nat) (v1 v3 v4 : Int) (M : am_M), XL_X8_digest_0_6 k8 n v1 v3 v4 M = some (x, M') → am_R none 153 bk_X8_digest 6 (am_wr [3, 2, 0, 1, 1] [v1, v3, v4]) [] SH M (am_rv (am_rk 153) x) SH M'
  | 0, v1, v3, v4, M, h => by cases h
  | n + 1, v1, v3, v4, M, h => rs_X8_digest_0_6 (ls_X8_digest_0_6 hk8 n) hk8 v1 v3 v4 M h
noncomputable def XL_X8_digest_0_4 (k9 : Int → am_M → am_Rs) : Nat → Int → Int → am_M → am_Rs
  | 0, _, _, _ => none
  | n + 1, v1, v3, M => XB_X8_digest_0_4 (XL_X8_digest_0_6 (XB_X8_digest_0_8 (XL_X8_digest_0_4 k9 n)) 1000) k9 v1 v3 M
theorem ls_X8_digest_0_4 {x : Int} {M' : am_M} {k9 : Int → am_M → am_Rs} (hk9 : ∀ w1 M, k9 w1 M = some (x, M') → am_R none 153 bk_X8_digest 9 (am_wr [3, 2, 0, 0, 0] [w1]) [] SH M (am_rv (am_rk 153) x) SH M') : ∀ (n : Nat) (v1 v3 : Int) (M : am_M), XL_X8_digest_0_4 k9 n v1 v3 M = some (x, M') → am_R none 153 bk_X8_digest 4 (am_wr [3, 2, 0, 1, 0] [v1, v3]) [] SH M (am_rv (am_rk 153) x) SH M'
  | 0, v1, v3, M, h => by cases h
  | n + 1, v1, v3, M, h => rs_X8_digest_0_4 (ls_X8_digest_0_6 (rs_X8_digest_0_8 (ls_X8_digest_0_4 hk9 n)) 1000) hk9 v1 v3 M h
noncomputable def XL_X8_digest_0_10 (k12 : Int → am_M → am_Rs) : Nat → Int → Int → am_M → am_Rs
  | 0, _, _, _ => none
  | n + 1, v1, v3, M => XB_X8_digest_0_10 (XL_X8_digest_0_10 k12 n) k12 v1 v3 M
theorem ls_X8_digest_0_10 {x : Int} {M' : am_M} {k12 : Int → am_M → am_Rs} (hk12 : ∀ w1 M, k12 w1 M = some (x, M') → am_R none 153 bk_X8_digest 12 (am_wr [3, 2, 0, 0, 0] [w1]) [] SH M (am_rv (am_rk 153) x) SH M') : ∀ (n : Nat) (v1 v3 : Int) (M : am_M), XL_X8_digest_0_10 k12 n v1 v3 M = some (x, M') → am_R none 153 bk_X8_digest 10 (am_wr [3, 2, 0, 1, 0] [v1, v3]) [] SH M (am_rv (am_rk 153) x) SH M'
  | 0, v1, v3, M, h => by cases h
  | n + 1, v1, v3, M, h => rs_X8_digest_0_10 (ls_X8_digest_0_10 hk12 n) hk12 v1 v3 M h
noncomputable def X_X8_digest_0 (M : am_M) : am_Rs := XB_X8_digest_0_e (XL_X8_digest_0_1 (XB_X8_digest_0_3 (XL_X8_digest_0_4 (XB_X8_digest_0_9 (XL_X8_digest_0_10 (XB_X8_digest_0_12) 1000)) 1000)) 1000) M
theorem dc_X8_digest_0 (M M' : am_M) (x : Int) (h : X_X8_digest_0 M = some (x, M')) : am_Calls 153 [.inr (.inr (some 0))] SH M (am_rv (am_rk 153) x) SH M' :=
  am_enter pn_X8_digest ml_X8_digest rfl (Nat.le_of_ble_eq_true rfl) ⟨Nat.le_refl _, Nat.le_refl _⟩ (rs_X8_digest_0_e (ls_X8_digest_0_1 (rs_X8_digest_0_3 (ls_X8_digest_0_4 (rs_X8_digest_0_9 (ls_X8_digest_0_10 (rs_X8_digest_0_12) 1000)) 1000)) 1000) M h)
noncomputable def X_X9_in (v0 v2 v4 : Int) (M : am_M) : am_Rs :=
  if wI (c_lcmp v0 v2) < 0 then
   some (0, M)
  else if 0 < wI (c_lcmp v0 v4) then
   some (0, M)
  else some (1, M)
set_option maxRecDepth 100000 in
theorem dc_X9_in (v0 v2 v4 : Int) (M M' : am_M) (x : Int) (h : X_X9_in v0 v2 v4 M = some (x, M')) : am_Calls 168 [.inr (.inl v0), .inr (.inl v2), .inr (.inl v4)] SH M (am_rv (am_rk 168) x) SH M' :=
  vCall (F := F_none) (C := fun _ _ _ _ => none) (fu := 7) ok_X9_in pn_X9_in ml_X9_in rfl (Nat.le_of_ble_eq_true rfl) fs_none (fun _ _ _ _ h => by cases h) h
noncomputable def F_X9_isRow : Nat → List am_V → am_M → am_Rs := fun k as M => if k = 168 then (match as with
  | [.inr (.inl a0), .inr (.inl a2), .inr (.inl a4)] => X_X9_in a0 a2 a4 M
  | _ => none) else none
theorem fs_X9_isRow : am_FS SH F_X9_isRow := by
  intro k as M x M' h
  unfold F_X9_isRow at h
  split at h
  · rename_i hk; subst hk
    split at h
    · exact dc_X9_in _ _ _ _ _ _ h
    · cases h
  cases h
noncomputable def X_X9_isRow (v0 : Int) (M : am_M) : am_Rs :=
  (X_X9_in (wI v0) 0 5 M).bind fun z1 =>
  if z1.1 = 0 ∨ z1.1 = 1 then
  some (z1.1, z1.2)
  else none
set_option maxRecDepth 100000 in
theorem dc_X9_isRow (v0 : Int) (M M' : am_M) (x : Int) (h : X_X9_isRow v0 M = some (x, M')) : am_Calls 172 [.inl v0] SH M (am_rv (am_rk 172) x) SH M' :=
  vCall (F := F_X9_isRow) (C := fun _ _ _ _ => none) (fu := 3) ok_X9_isRow pn_X9_isRow ml_X9_isRow rfl (Nat.le_of_ble_eq_true rfl) fs_X9_isRow (fun _ _ _ _ h => by cases h) h
noncomputable def XB_X9_makeRow_53_1 (c1 : Int → Int → am_M → am_Rs) (c3 : am_M → am_Rs) (v1 v3 : Int) (M : am_M) : am_Rs :=
  if wI v3 < 40 then
   if 0 ≤ wI ((40 * v1) + v3) ∧ wI ((40 * v1) + v3) < 240 then
   c1 v1 (v3 + 1) (am_up M 58 (wI ((40 * v1) + v3)).toNat 0)
   else none
  else c3 M
set_option maxRecDepth 100000 in
theorem rs_X9_makeRow_53_1 {x : Int} {M' : am_M} {c1 : Int → Int → am_M → am_Rs} {c3 : am_M → am_Rs} (h1 : ∀ w1 w3 M, c1 w1 w3 M = some (x, M') → am_R none 175 bk_X9_makeRow 1 (am_wr [56, 1, 0, 1] [w1, w3]) [] SH M (am_rv (am_rk 175) x) SH M') (h3 : ∀ M, c3 M = some (x, M') → am_R none 175 bk_X9_makeRow 3 (am_wr [0, 0, 0, 0] []) [] SH M (am_rv (am_rk 175) x) SH M') (v1 v3 : Int) (M : am_M) (h : XB_X9_makeRow_53_1 c1 c3 v1 v3 M = some (x, M')) : am_R none 175 bk_X9_makeRow 1 (am_wr [56, 1, 0, 1] [v1, v3]) [] SH M (am_rv (am_rk 175) x) SH M' :=
  vRegion (sc := none) (sh := SH) (F := F_none) (k := 175) (bs := bk_X9_makeRow) (r := (x, M')) (C := fun t lv st M => if t = 1 then vCt [56, 1, 0, 1] (un2 c1) lv st M else if t = 3 then vCt [0, 0, 0, 0] (un0 c3) lv st M else none) ok_X9_makeRow fs_none (fun t lv st M h => by
    split at h
    · rename_i e; subst e; exact vCt_s (un2_s h1) h
    split at h
    · rename_i e; subst e; exact vCt_s (un0_s h3) h
    cases h) 6 1 (am_wr [56, 1, 0, 1] [v1, v3]) [] M h
noncomputable def XB_X9_makeRow_53_3 (M : am_M) : am_Rs :=
  some (0, M)
set_option maxRecDepth 100000 in
theorem rs_X9_makeRow_53_3 {x : Int} {M' : am_M} (M : am_M) (h : XB_X9_makeRow_53_3 M = some (x, M')) : am_R none 175 bk_X9_makeRow 3 (am_wr [0, 0, 0, 0] []) [] SH M (am_rv (am_rk 175) x) SH M' :=
  vRegion (sc := none) (sh := SH) (F := F_none) (k := 175) (bs := bk_X9_makeRow) (r := (x, M')) (C := fun t lv st M => none) ok_X9_makeRow fs_none (fun t lv st M h => by
    cases h) 6 3 (am_wr [0, 0, 0, 0] []) [] M h
noncomputable def XB_X9_makeRow_53_e (c1 : Int → Int → am_M → am_Rs) (v1 v2 : Int) (M : am_M) : am_Rs :=
  if 0 ≤ wI v1 ∧ wI v1 < 6 then
  c1 v1 0 (am_up M 57 (wI v1).toNat v2)
  else none
set_option maxRecDepth 100000 in
theorem rs_X9_makeRow_53_e {x : Int} {M' : am_M} {c1 : Int → Int → am_M → am_Rs} (h1 : ∀ w1 w3 M, c1 w1 w3 M = some (x, M') → am_R none 175 bk_X9_makeRow 1 (am_wr [56, 1, 0, 1] [w1, w3]) [] SH M (am_rv (am_rk 175) x) SH M') (v1 v2 : Int) (M : am_M) (h : XB_X9_makeRow_53_e c1 v1 v2 M = some (x, M')) : am_R none 175 bk_X9_makeRow 0 (am_ent 4 [.inr (.inr (some 53)), .inl v1, .inl v2]) [] SH M (am_rv (am_rk 175) x) SH M' :=
  vRegion (sc := none) (sh := SH) (F := F_none) (k := 175) (bs := bk_X9_makeRow) (r := (x, M')) (C := fun t lv st M => if t = 1 then vCt [56, 1, 0, 1] (un2 c1) lv st M else none) ok_X9_makeRow fs_none (fun t lv st M h => by
    split at h
    · rename_i e; subst e; exact vCt_s (un2_s h1) h
    cases h) 6 0 (am_ent 4 [.inr (.inr (some 53)), .inl v1, .inl v2]) [] M h
noncomputable def XL_X9_makeRow_53_1 (k3 : am_M → am_Rs) : Nat → Int → Int → am_M → am_Rs
  | 0, _, _, _ => none
  | n + 1, v1, v3, M => XB_X9_makeRow_53_1 (XL_X9_makeRow_53_1 k3 n) k3 v1 v3 M
theorem ls_X9_makeRow_53_1 {x : Int} {M' : am_M} {k3 : am_M → am_Rs} (hk3 : ∀ M, k3 M = some (x, M') → am_R none 175 bk_X9_makeRow 3 (am_wr [0, 0, 0, 0] []) [] SH M (am_rv (am_rk 175) x) SH M') : ∀ (n : Nat) (v1 v3 : Int) (M : am_M), XL_X9_makeRow_53_1 k3 n v1 v3 M = some (x, M') → am_R none 175 bk_X9_makeRow 1 (am_wr [56, 1, 0, 1] [v1, v3]) [] SH M (am_rv (am_rk 175) x) SH M'
  | 0, v1, v3, M, h => by cases h
  | n + 1, v1, v3, M, h => rs_X9_makeRow_53_1 (ls_X9_makeRow_53_1 hk3 n) hk3 v1 v3 M h
noncomputable def X_X9_makeRow_53 (v1 v2 : Int) (M : am_M) : am_Rs := XB_X9_makeRow_53_e (XL_X9_makeRow_53_1 (XB_X9_makeRow_53_3) 1000) v1 v2 M
theorem dc_X9_makeRow_53 (v1 v2 : Int) (M M' : am_M) (x : Int) (h : X_X9_makeRow_53 v1 v2 M = some (x, M')) : am_Calls 175 [.inr (.inr (some 53)), .inl v1, .inl v2] SH M (am_rv (am_rk 175) x) SH M' :=
  am_enter pn_X9_makeRow ml_X9_makeRow rfl (Nat.le_of_ble_eq_true rfl) ⟨Nat.le_refl _, Nat.le_refl _⟩ (rs_X9_makeRow_53_e (ls_X9_makeRow_53_1 (rs_X9_makeRow_53_3) 1000) v1 v2 M h)
noncomputable def X_X9_find_53 (v1 : Int) (M : am_M) : am_Rs :=
  if 0 ≤ wI v1 ∧ wI v1 < 6 then
  if 0 ≤ wI v1 ∧ wI v1 < 6 then
   some ((-3), (am_up (am_up M 53 11 v1) 61 (wI v1).toNat (((am_up M 53 11 v1) 61 (wI v1).toNat) + 1)))
   else none
  else none
set_option maxRecDepth 100000 in
theorem dc_X9_find_53 (v1 : Int) (M M' : am_M) (x : Int) (h : X_X9_find_53 v1 M = some (x, M')) : am_Calls 170 [.inr (.inr (some 53)), .inl v1] SH M (am_rv (am_rk 170) x) SH M' :=
  vCall (F := F_none) (C := fun _ _ _ _ => none) (fu := 3) ok_X9_find pn_X9_find ml_X9_find rfl (Nat.le_of_ble_eq_true rfl) fs_none (fun _ _ _ _ h => by cases h) h
noncomputable def F_X9_row_53 : Nat → List am_V → am_M → am_Rs := fun k as M => if k = 170 then (match as with
  | [.inr (.inr (some 53)), .inl a1] => X_X9_find_53 a1 M
  | _ => none) else if k = 172 then (match as with
  | [.inl a0] => X_X9_isRow a0 M
  | _ => none) else if k = 175 then (match as with
  | [.inr (.inr (some 53)), .inl a1, .inl a2] => X_X9_makeRow_53 a1 a2 M
  | _ => none) else none
theorem fs_X9_row_53 : am_FS SH F_X9_row_53 := by
  intro k as M x M' h
  unfold F_X9_row_53 at h
  split at h
  · rename_i hk; subst hk
    split at h
    · exact dc_X9_find_53 _ _ _ _ h
    · cases h
  split at h
  · rename_i hk; subst hk
    split at h
    · exact dc_X9_isRow _ _ _ _ h
    · cases h
  split at h
  · rename_i hk; subst hk
    split at h
    · exact dc_X9_makeRow_53 _ _ _ _ _ h
    · cases h
  cases h
noncomputable def X_X9_row_53 (v1 v2 : Int) (M : am_M) : am_Rs :=
  (X_X9_isRow v1 M).bind fun z1 =>
  if wI z1.1 = 0 then
   some ((-1), z1.2)
  else if 40 < wI v2 then
   some ((-1), z1.2)
  else if wI v2 < 0 then
   (X_X9_find_53 5 z1.2).bind fun z2 =>
   some (z2.1, z2.2)
  else (X_X9_makeRow_53 v1 v2 z1.2).bind fun z2 =>
  some (v2, z2.2)
set_option maxRecDepth 100000 in
theorem dc_X9_row_53 (v1 v2 : Int) (M M' : am_M) (x : Int) (h : X_X9_row_53 v1 v2 M = some (x, M')) : am_Calls 174 [.inr (.inr (some 53)), .inl v1, .inl v2] SH M (am_rv (am_rk 174) x) SH M' :=
  vCall (F := F_X9_row_53) (C := fun _ _ _ _ => none) (fu := 8) ok_X9_row pn_X9_row ml_X9_row rfl (Nat.le_of_ble_eq_true rfl) fs_X9_row_53 (fun _ _ _ _ h => by cases h) h
noncomputable def F_X9_refused_53 : Nat → List am_V → am_M → am_Rs := fun k as M => if k = 168 then (match as with
  | [.inr (.inl a0), .inr (.inl a2), .inr (.inl a4)] => X_X9_in a0 a2 a4 M
  | _ => none) else if k = 170 then (match as with
  | [.inr (.inr (some 53)), .inl a1] => X_X9_find_53 a1 M
  | _ => none) else if k = 172 then (match as with
  | [.inl a0] => X_X9_isRow a0 M
  | _ => none) else none
theorem fs_X9_refused_53 : am_FS SH F_X9_refused_53 := by
  intro k as M x M' h
  unfold F_X9_refused_53 at h
  split at h
  · rename_i hk; subst hk
    split at h
    · exact dc_X9_in _ _ _ _ _ _ h
    · cases h
  split at h
  · rename_i hk; subst hk
    split at h
    · exact dc_X9_find_53 _ _ _ _ h
    · cases h
  split at h
  · rename_i hk; subst hk
    split at h
    · exact dc_X9_isRow _ _ _ _ h
    · cases h
  cases h
noncomputable def X_X9_refused_53 (v1 v2 : Int) (M : am_M) : am_Rs :=
  (X_X9_isRow v1 M).bind fun z1 =>
  if wI z1.1 = 0 then
   some ((-1), z1.2)
  else if 0 ≤ wI v1 ∧ wI v1 < 6 then
  if wI (z1.2 57 (wI v1).toNat) < 0 then
    (X_X9_find_53 1 z1.2).bind fun z2 =>
    some (z2.1, z2.2)
   else if 0 ≤ wI v1 ∧ wI v1 < 6 then
   (X_X9_in (wI v2) 0 (wI ((z1.2 57 (wI v1).toNat) - 1)) z1.2).bind fun z2 =>
    if wI z2.1 = 0 then
     (X_X9_find_53 2 z2.2).bind fun z3 =>
     some (z3.1, z3.2)
    else some (0, z2.2)
   else none
  else none
set_option maxRecDepth 100000 in
theorem dc_X9_refused_53 (v1 v2 : Int) (M M' : am_M) (x : Int) (h : X_X9_refused_53 v1 v2 M = some (x, M')) : am_Calls 176 [.inr (.inr (some 53)), .inl v1, .inl v2] SH M (am_rv (am_rk 176) x) SH M' :=
  vCall (F := F_X9_refused_53) (C := fun _ _ _ _ => none) (fu := 10) ok_X9_refused pn_X9_refused ml_X9_refused rfl (Nat.le_of_ble_eq_true rfl) fs_X9_refused_53 (fun _ _ _ _ h => by cases h) h
noncomputable def X_X9_tell_53 (v1 : Int) (M : am_M) : am_Rs :=
  some (1, (am_up M 53 8 v1))
set_option maxRecDepth 100000 in
theorem dc_X9_tell_53 (v1 : Int) (M M' : am_M) (x : Int) (h : X_X9_tell_53 v1 M = some (x, M')) : am_Calls 171 [.inr (.inr (some 53)), .inl v1] SH M (am_rv (am_rk 171) x) SH M' :=
  vCall (F := F_none) (C := fun _ _ _ _ => none) (fu := 3) ok_X9_tell pn_X9_tell ml_X9_tell rfl (Nat.le_of_ble_eq_true rfl) fs_none (fun _ _ _ _ h => by cases h) h
noncomputable def F_X9_lay_53 : Nat → List am_V → am_M → am_Rs := fun k as M => if k = 171 then (match as with
  | [.inr (.inr (some 53)), .inl a1] => X_X9_tell_53 a1 M
  | _ => none) else if k = 176 then (match as with
  | [.inr (.inr (some 53)), .inl a1, .inl a2] => X_X9_refused_53 a1 a2 M
  | _ => none) else none
theorem fs_X9_lay_53 : am_FS SH F_X9_lay_53 := by
  intro k as M x M' h
  unfold F_X9_lay_53 at h
  split at h
  · rename_i hk; subst hk
    split at h
    · exact dc_X9_tell_53 _ _ _ _ h
    · cases h
  split at h
  · rename_i hk; subst hk
    split at h
    · exact dc_X9_refused_53 _ _ _ _ _ h
    · cases h
  cases h
noncomputable def X_X9_lay_53 (v1 v2 v3 : Int) (M : am_M) : am_Rs :=
  (X_X9_refused_53 v1 v2 M).bind fun z1 =>
  if wI z1.1 = 0 then
   if 0 ≤ wI ((40 * v1) + v2) ∧ wI ((40 * v1) + v2) < 240 then
   if 0 ≤ wI ((40 * v1) + v2) ∧ wI ((40 * v1) + v2) < 240 then
    (X_X9_tell_53 (z1.2 58 (wI ((40 * v1) + v2)).toNat) (am_up z1.2 58 (wI ((40 * v1) + v2)).toNat v3)).bind fun z2 =>
     some (z2.1, z2.2)
    else none
   else none
  else some (z1.1, z1.2)
set_option maxRecDepth 100000 in
theorem dc_X9_lay_53 (v1 v2 v3 : Int) (M M' : am_M) (x : Int) (h : X_X9_lay_53 v1 v2 v3 M = some (x, M')) : am_Calls 177 [.inr (.inr (some 53)), .inl v1, .inl v2, .inl v3] SH M (am_rv (am_rk 177) x) SH M' :=
  vCall (F := F_X9_lay_53) (C := fun _ _ _ _ => none) (fu := 5) ok_X9_lay pn_X9_lay ml_X9_lay rfl (Nat.le_of_ble_eq_true rfl) fs_X9_lay_53 (fun _ _ _ _ h => by cases h) h
noncomputable def F_X9_at_53 : Nat → List am_V → am_M → am_Rs := fun k as M => if k = 171 then (match as with
  | [.inr (.inr (some 53)), .inl a1] => X_X9_tell_53 a1 M
  | _ => none) else if k = 176 then (match as with
  | [.inr (.inr (some 53)), .inl a1, .inl a2] => X_X9_refused_53 a1 a2 M
  | _ => none) else none
theorem fs_X9_at_53 : am_FS SH F_X9_at_53 := by
  intro k as M x M' h
  unfold F_X9_at_53 at h
  split at h
  · rename_i hk; subst hk
    split at h
    · exact dc_X9_tell_53 _ _ _ _ h
    · cases h
  split at h
  · rename_i hk; subst hk
    split at h
    · exact dc_X9_refused_53 _ _ _ _ _ h
    · cases h
  cases h
noncomputable def X_X9_at_53 (v1 v2 : Int) (M : am_M) : am_Rs :=
  (X_X9_refused_53 v1 v2 M).bind fun z1 =>
  if wI z1.1 = 0 then
   if 0 ≤ wI ((40 * v1) + v2) ∧ wI ((40 * v1) + v2) < 240 then
   (X_X9_tell_53 (z1.2 58 (wI ((40 * v1) + v2)).toNat) z1.2).bind fun z2 =>
    some (z2.1, z2.2)
   else none
  else some (z1.1, z1.2)
set_option maxRecDepth 100000 in
theorem dc_X9_at_53 (v1 v2 : Int) (M M' : am_M) (x : Int) (h : X_X9_at_53 v1 v2 M = some (x, M')) : am_Calls 178 [.inr (.inr (some 53)), .inl v1, .inl v2] SH M (am_rv (am_rk 178) x) SH M' :=
  vCall (F := F_X9_at_53) (C := fun _ _ _ _ => none) (fu := 6) ok_X9_at pn_X9_at ml_X9_at rfl (Nat.le_of_ble_eq_true rfl) fs_X9_at_53 (fun _ _ _ _ h => by cases h) h
noncomputable def F_X9_tear_53 : Nat → List am_V → am_M → am_Rs := fun k as M => if k = 170 then (match as with
  | [.inr (.inr (some 53)), .inl a1] => X_X9_find_53 a1 M
  | _ => none) else if k = 172 then (match as with
  | [.inl a0] => X_X9_isRow a0 M
  | _ => none) else none
theorem fs_X9_tear_53 : am_FS SH F_X9_tear_53 := by
  intro k as M x M' h
  unfold F_X9_tear_53 at h
  split at h
  · rename_i hk; subst hk
    split at h
    · exact dc_X9_find_53 _ _ _ _ h
    · cases h
  split at h
  · rename_i hk; subst hk
    split at h
    · exact dc_X9_isRow _ _ _ _ h
    · cases h
  cases h
noncomputable def X_X9_tear_53 (v1 : Int) (M : am_M) : am_Rs :=
  (X_X9_isRow v1 M).bind fun z1 =>
  if wI z1.1 = 0 then
   some ((-1), z1.2)
  else if 0 ≤ wI v1 ∧ wI v1 < 6 then
  if wI (z1.2 57 (wI v1).toNat) < 0 then
    (X_X9_find_53 1 z1.2).bind fun z2 =>
    some (z2.1, z2.2)
   else if 0 ≤ wI v1 ∧ wI v1 < 6 then
   some (1, (am_up z1.2 57 (wI v1).toNat (-1)))
   else none
  else none
set_option maxRecDepth 100000 in
theorem dc_X9_tear_53 (v1 : Int) (M M' : am_M) (x : Int) (h : X_X9_tear_53 v1 M = some (x, M')) : am_Calls 179 [.inr (.inr (some 53)), .inl v1] SH M (am_rv (am_rk 179) x) SH M' :=
  vCall (F := F_X9_tear_53) (C := fun _ _ _ _ => none) (fu := 7) ok_X9_tear pn_X9_tear ml_X9_tear rfl (Nat.le_of_ble_eq_true rfl) fs_X9_tear_53 (fun _ _ _ _ h => by cases h) h
noncomputable def X_X9_isSpan_53 (v1 v2 v3 : Int) (M : am_M) : am_Rs :=
  if wI v2 < 0 then
   some (0, M)
  else if 0 ≤ wI v1 ∧ wI v1 < 6 then
  if 0 < wI (c_lcmp ((wI v2) + (wI v3)) (wI (M 57 (wI v1).toNat))) then
    some (0, M)
   else some (1, M)
  else none
set_option maxRecDepth 100000 in
theorem dc_X9_isSpan_53 (v1 v2 v3 : Int) (M M' : am_M) (x : Int) (h : X_X9_isSpan_53 v1 v2 v3 M = some (x, M')) : am_Calls 180 [.inr (.inr (some 53)), .inl v1, .inl v2, .inl v3] SH M (am_rv (am_rk 180) x) SH M' :=
  vCall (F := F_none) (C := fun _ _ _ _ => none) (fu := 7) ok_X9_isSpan pn_X9_isSpan ml_X9_isSpan rfl (Nat.le_of_ble_eq_true rfl) fs_none (fun _ _ _ _ h => by cases h) h
noncomputable def F_X9_copy_53 : Nat → List am_V → am_M → am_Rs := fun k as M => if k = 170 then (match as with
  | [.inr (.inr (some 53)), .inl a1] => X_X9_find_53 a1 M
  | _ => none) else if k = 172 then (match as with
  | [.inl a0] => X_X9_isRow a0 M
  | _ => none) else if k = 180 then (match as with
  | [.inr (.inr (some 53)), .inl a1, .inl a2, .inl a3] => X_X9_isSpan_53 a1 a2 a3 M
  | _ => none) else none
theorem fs_X9_copy_53 : am_FS SH F_X9_copy_53 := by
  intro k as M x M' h
  unfold F_X9_copy_53 at h
  split at h
  · rename_i hk; subst hk
    split at h
    · exact dc_X9_find_53 _ _ _ _ h
    · cases h
  split at h
  · rename_i hk; subst hk
    split at h
    · exact dc_X9_isRow _ _ _ _ h
    · cases h
  split at h
  · rename_i hk; subst hk
    split at h
    · exact dc_X9_isSpan_53 _ _ _ _ _ _ h
    · cases h
  cases h
noncomputable def XB_X9_copy_53_15 (c15 : Int → Int → Int → Int → Int → Int → Int → am_M → am_Rs) (c20 : am_M → am_Rs) (v1 v2 v3 v4 v5 v6 v7 : Int) (M : am_M) : am_Rs :=
  if wI v7 < wI v5 then
   if wI v6 = 0 then
    if 0 ≤ wI (((40 * v1) + v2) + v7) ∧ wI (((40 * v1) + v2) + v7) < 240 then
    if 0 ≤ wI (((40 * v3) + v4) + v7) ∧ wI (((40 * v3) + v4) + v7) < 240 then
     c15 v1 v2 v3 v4 v5 v6 (v7 + 1) (am_up M 58 (wI (((40 * v3) + v4) + v7)).toNat (M 58 (wI (((40 * v1) + v2) + v7)).toNat))
     else none
    else none
   else if 0 ≤ wI (((40 * v1) + v2) + ((v5 - 1) - v7)) ∧ wI (((40 * v1) + v2) + ((v5 - 1) - v7)) < 240 then
   if 0 ≤ wI (((40 * v3) + v4) + ((v5 - 1) - v7)) ∧ wI (((40 * v3) + v4) + ((v5 - 1) - v7)) < 240 then
    c15 v1 v2 v3 v4 v5 v6 (v7 + 1) (am_up M 58 (wI (((40 * v3) + v4) + ((v5 - 1) - v7))).toNat (M 58 (wI (((40 * v1) + v2) + ((v5 - 1) - v7))).toNat))
    else none
   else none
  else c20 M
set_option maxRecDepth 100000 in
theorem rs_X9_copy_53_15 {x : Int} {M' : am_M} {c15 : Int → Int → Int → Int → Int → Int → Int → am_M → am_Rs} {c20 : am_M → am_Rs} (h15 : ∀ w1 w2 w3 w4 w5 w6 w7 M, c15 w1 w2 w3 w4 w5 w6 w7 M = some (x, M') → am_R none 181 bk_X9_copy 15 (am_wr [56, 1, 1, 1, 1, 1, 1, 1, 0] [w1, w2, w3, w4, w5, w6, w7]) [] SH M (am_rv (am_rk 181) x) SH M') (h20 : ∀ M, c20 M = some (x, M') → am_R none 181 bk_X9_copy 20 (am_wr [0, 0, 0, 0, 0, 0, 0, 0, 0] []) [] SH M (am_rv (am_rk 181) x) SH M') (v1 v2 v3 v4 v5 v6 v7 : Int) (M : am_M) (h : XB_X9_copy_53_15 c15 c20 v1 v2 v3 v4 v5 v6 v7 M = some (x, M')) : am_R none 181 bk_X9_copy 15 (am_wr [56, 1, 1, 1, 1, 1, 1, 1, 0] [v1, v2, v3, v4, v5, v6, v7]) [] SH M (am_rv (am_rk 181) x) SH M' :=
  vRegion (sc := none) (sh := SH) (F := F_X9_copy_53) (k := 181) (bs := bk_X9_copy) (r := (x, M')) (C := fun t lv st M => if t = 15 then vCt [56, 1, 1, 1, 1, 1, 1, 1, 0] (un7 c15) lv st M else if t = 20 then vCt [0, 0, 0, 0, 0, 0, 0, 0, 0] (un0 c20) lv st M else none) ok_X9_copy fs_X9_copy_53 (fun t lv st M h => by
    split at h
    · rename_i e; subst e; exact vCt_s (un7_s h15) h
    split at h
    · rename_i e; subst e; exact vCt_s (un0_s h20) h
    cases h) 23 15 (am_wr [56, 1, 1, 1, 1, 1, 1, 1, 0] [v1, v2, v3, v4, v5, v6, v7]) [] M h
noncomputable def XB_X9_copy_53_20 (M : am_M) : am_Rs :=
  some (1, M)
set_option maxRecDepth 100000 in
theorem rs_X9_copy_53_20 {x : Int} {M' : am_M} (M : am_M) (h : XB_X9_copy_53_20 M = some (x, M')) : am_R none 181 bk_X9_copy 20 (am_wr [0, 0, 0, 0, 0, 0, 0, 0, 0] []) [] SH M (am_rv (am_rk 181) x) SH M' :=
  vRegion (sc := none) (sh := SH) (F := F_X9_copy_53) (k := 181) (bs := bk_X9_copy) (r := (x, M')) (C := fun t lv st M => none) ok_X9_copy fs_X9_copy_53 (fun t lv st M h => by
    cases h) 23 20 (am_wr [0, 0, 0, 0, 0, 0, 0, 0, 0] []) [] M h
noncomputable def XB_X9_copy_53_e (c15 : Int → Int → Int → Int → Int → Int → Int → am_M → am_Rs) (v1 v2 v3 v4 v5 : Int) (M : am_M) : am_Rs :=
  (X_X9_isRow v1 M).bind fun z1 =>
  if wI z1.1 = 0 then
   some ((-1), z1.2)
  else (X_X9_isRow v3 z1.2).bind fun z2 =>
  if wI z2.1 = 0 then
   some ((-1), z2.2)
  else if wI v5 < 0 then
   (X_X9_find_53 5 z2.2).bind fun z3 =>
   some (z3.1, z3.2)
  else if 0 ≤ wI v1 ∧ wI v1 < 6 then
  if wI (z2.2 57 (wI v1).toNat) < 0 then
    (X_X9_find_53 1 z2.2).bind fun z3 =>
    some (z3.1, z3.2)
   else if 0 ≤ wI v3 ∧ wI v3 < 6 then
   if wI (z2.2 57 (wI v3).toNat) < 0 then
     (X_X9_find_53 1 z2.2).bind fun z3 =>
     some (z3.1, z3.2)
    else (X_X9_isSpan_53 v1 v2 v5 z2.2).bind fun z3 =>
    if wI z3.1 = 0 then
     (X_X9_find_53 2 z3.2).bind fun z4 =>
     some (z4.1, z4.2)
    else (X_X9_isSpan_53 v3 v4 v5 z3.2).bind fun z4 =>
    if wI z4.1 = 0 then
     (X_X9_find_53 2 z4.2).bind fun z5 =>
     some (z5.1, z5.2)
    else if wI v2 < wI v4 then
     c15 v1 v2 v3 v4 v5 1 0 z4.2
    else c15 v1 v2 v3 v4 v5 0 0 z4.2
   else none
  else none
set_option maxRecDepth 100000 in
theorem rs_X9_copy_53_e {x : Int} {M' : am_M} {c15 : Int → Int → Int → Int → Int → Int → Int → am_M → am_Rs} (h15 : ∀ w1 w2 w3 w4 w5 w6 w7 M, c15 w1 w2 w3 w4 w5 w6 w7 M = some (x, M') → am_R none 181 bk_X9_copy 15 (am_wr [56, 1, 1, 1, 1, 1, 1, 1, 0] [w1, w2, w3, w4, w5, w6, w7]) [] SH M (am_rv (am_rk 181) x) SH M') (v1 v2 v3 v4 v5 : Int) (M : am_M) (h : XB_X9_copy_53_e c15 v1 v2 v3 v4 v5 M = some (x, M')) : am_R none 181 bk_X9_copy 0 (am_ent 9 [.inr (.inr (some 53)), .inl v1, .inl v2, .inl v3, .inl v4, .inl v5]) [] SH M (am_rv (am_rk 181) x) SH M' :=
  vRegion (sc := none) (sh := SH) (F := F_X9_copy_53) (k := 181) (bs := bk_X9_copy) (r := (x, M')) (C := fun t lv st M => if t = 15 then vCt [56, 1, 1, 1, 1, 1, 1, 1, 0] (un7 c15) lv st M else none) ok_X9_copy fs_X9_copy_53 (fun t lv st M h => by
    split at h
    · rename_i e; subst e; exact vCt_s (un7_s h15) h
    cases h) 23 0 (am_ent 9 [.inr (.inr (some 53)), .inl v1, .inl v2, .inl v3, .inl v4, .inl v5]) [] M h
noncomputable def XL_X9_copy_53_15 (k20 : am_M → am_Rs) : Nat → Int → Int → Int → Int → Int → Int → Int → am_M → am_Rs
  | 0, _, _, _, _, _, _, _, _ => none
  | n + 1, v1, v2, v3, v4, v5, v6, v7, M => XB_X9_copy_53_15 (XL_X9_copy_53_15 k20 n) k20 v1 v2 v3 v4 v5 v6 v7 M
theorem ls_X9_copy_53_15 {x : Int} {M' : am_M} {k20 : am_M → am_Rs} (hk20 : ∀ M, k20 M = some (x, M') → am_R none 181 bk_X9_copy 20 (am_wr [0, 0, 0, 0, 0, 0, 0, 0, 0] []) [] SH M (am_rv (am_rk 181) x) SH M') : ∀ (n : Nat) (v1 v2 v3 v4 v5 v6 v7 : Int) (M : am_M), XL_X9_copy_53_15 k20 n v1 v2 v3 v4 v5 v6 v7 M = some (x, M') → am_R none 181 bk_X9_copy 15 (am_wr [56, 1, 1, 1, 1, 1, 1, 1, 0] [v1, v2, v3, v4, v5, v6, v7]) [] SH M (am_rv (am_rk 181) x) SH M'
  | 0, v1, v2, v3, v4, v5, v6, v7, M, h => by cases h
  | n + 1, v1, v2, v3, v4, v5, v6, v7, M, h => rs_X9_copy_53_15 (ls_X9_copy_53_15 hk20 n) hk20 v1 v2 v3 v4 v5 v6 v7 M h
noncomputable def X_X9_copy_53 (v1 v2 v3 v4 v5 : Int) (M : am_M) : am_Rs := XB_X9_copy_53_e (XL_X9_copy_53_15 (XB_X9_copy_53_20) 1000) v1 v2 v3 v4 v5 M
theorem dc_X9_copy_53 (v1 v2 v3 v4 v5 : Int) (M M' : am_M) (x : Int) (h : X_X9_copy_53 v1 v2 v3 v4 v5 M = some (x, M')) : am_Calls 181 [.inr (.inr (some 53)), .inl v1, .inl v2, .inl v3, .inl v4, .inl v5] SH M (am_rv (am_rk 181) x) SH M' :=
  am_enter pn_X9_copy ml_X9_copy rfl (Nat.le_of_ble_eq_true rfl) ⟨Nat.le_refl _, Nat.le_refl _⟩ (rs_X9_copy_53_e (ls_X9_copy_53_15 (rs_X9_copy_53_20) 1000) v1 v2 v3 v4 v5 M h)
noncomputable def F_X9_mean_53 : Nat → List am_V → am_M → am_Rs := fun k as M => if k = 170 then (match as with
  | [.inr (.inr (some 53)), .inl a1] => X_X9_find_53 a1 M
  | _ => none) else if k = 171 then (match as with
  | [.inr (.inr (some 53)), .inl a1] => X_X9_tell_53 a1 M
  | _ => none) else if k = 172 then (match as with
  | [.inl a0] => X_X9_isRow a0 M
  | _ => none) else none
theorem fs_X9_mean_53 : am_FS SH F_X9_mean_53 := by
  intro k as M x M' h
  unfold F_X9_mean_53 at h
  split at h
  · rename_i hk; subst hk
    split at h
    · exact dc_X9_find_53 _ _ _ _ h
    · cases h
  split at h
  · rename_i hk; subst hk
    split at h
    · exact dc_X9_tell_53 _ _ _ _ h
    · cases h
  split at h
  · rename_i hk; subst hk
    split at h
    · exact dc_X9_isRow _ _ _ _ h
    · cases h
  cases h
noncomputable def XB_X9_mean_53_7 (c7 : Int → Int → Int → am_M → am_Rs) (c9 : Int → Int → am_M → am_Rs) (v1 v2 v4 : Int) (M : am_M) : am_Rs :=
  if 0 ≤ wI v1 ∧ wI v1 < 6 then
  if wI v4 < wI (M 57 (wI v1).toNat) then
    if 0 ≤ wI ((40 * v1) + v4) ∧ wI ((40 * v1) + v4) < 240 then
    c7 v1 (v2 + (wI (M 58 (wI ((40 * v1) + v4)).toNat))) (v4 + 1) M
    else none
   else c9 v1 v2 M
  else none
set_option maxRecDepth 100000 in
theorem rs_X9_mean_53_7 {x : Int} {M' : am_M} {c7 : Int → Int → Int → am_M → am_Rs} {c9 : Int → Int → am_M → am_Rs} (h7 : ∀ w1 w2 w4 M, c7 w1 w2 w4 M = some (x, M') → am_R none 182 bk_X9_mean 7 (am_wr [56, 1, 2, 0, 1] [w1, w2, w4]) [] SH M (am_rv (am_rk 182) x) SH M') (h9 : ∀ w1 w2 M, c9 w1 w2 M = some (x, M') → am_R none 182 bk_X9_mean 9 (am_wr [56, 1, 2, 0, 0] [w1, w2]) [] SH M (am_rv (am_rk 182) x) SH M') (v1 v2 v4 : Int) (M : am_M) (h : XB_X9_mean_53_7 c7 c9 v1 v2 v4 M = some (x, M')) : am_R none 182 bk_X9_mean 7 (am_wr [56, 1, 2, 0, 1] [v1, v2, v4]) [] SH M (am_rv (am_rk 182) x) SH M' :=
  vRegion (sc := none) (sh := SH) (F := F_X9_mean_53) (k := 182) (bs := bk_X9_mean) (r := (x, M')) (C := fun t lv st M => if t = 7 then vCt [56, 1, 2, 0, 1] (un3 c7) lv st M else if t = 9 then vCt [56, 1, 2, 0, 0] (un2 c9) lv st M else none) ok_X9_mean fs_X9_mean_53 (fun t lv st M h => by
    split at h
    · rename_i e; subst e; exact vCt_s (un3_s h7) h
    split at h
    · rename_i e; subst e; exact vCt_s (un2_s h9) h
    cases h) 12 7 (am_wr [56, 1, 2, 0, 1] [v1, v2, v4]) [] M h
noncomputable def XB_X9_mean_53_9 (v1 v2 : Int) (M : am_M) : am_Rs :=
  if 0 ≤ wI v1 ∧ wI v1 < 6 then
  if wL (wI (M 57 (wI v1).toNat)) ≠ 0 then
   (X_X9_tell_53 ((wL v2).tdiv (wL (wI (M 57 (wI v1).toNat)))) M).bind fun z1 =>
    some (z1.1, z1.2)
   else none
  else none
set_option maxRecDepth 100000 in
theorem rs_X9_mean_53_9 {x : Int} {M' : am_M} (v1 v2 : Int) (M : am_M) (h : XB_X9_mean_53_9 v1 v2 M = some (x, M')) : am_R none 182 bk_X9_mean 9 (am_wr [56, 1, 2, 0, 0] [v1, v2]) [] SH M (am_rv (am_rk 182) x) SH M' :=
  vRegion (sc := none) (sh := SH) (F := F_X9_mean_53) (k := 182) (bs := bk_X9_mean) (r := (x, M')) (C := fun t lv st M => none) ok_X9_mean fs_X9_mean_53 (fun t lv st M h => by
    cases h) 12 9 (am_wr [56, 1, 2, 0, 0] [v1, v2]) [] M h
noncomputable def XB_X9_mean_53_e (c7 : Int → Int → Int → am_M → am_Rs) (v1 : Int) (M : am_M) : am_Rs :=
  (X_X9_isRow v1 M).bind fun z1 =>
  if wI z1.1 = 0 then
   some ((-1), z1.2)
  else if 0 ≤ wI v1 ∧ wI v1 < 6 then
  if wI (z1.2 57 (wI v1).toNat) < 0 then
    (X_X9_find_53 1 z1.2).bind fun z2 =>
    some (z2.1, z2.2)
   else if 0 ≤ wI v1 ∧ wI v1 < 6 then
   if wI (z1.2 57 (wI v1).toNat) = 0 then
     (X_X9_find_53 4 z1.2).bind fun z2 =>
     some (z2.1, z2.2)
    else c7 v1 0 0 z1.2
   else none
  else none
set_option maxRecDepth 100000 in
theorem rs_X9_mean_53_e {x : Int} {M' : am_M} {c7 : Int → Int → Int → am_M → am_Rs} (h7 : ∀ w1 w2 w4 M, c7 w1 w2 w4 M = some (x, M') → am_R none 182 bk_X9_mean 7 (am_wr [56, 1, 2, 0, 1] [w1, w2, w4]) [] SH M (am_rv (am_rk 182) x) SH M') (v1 : Int) (M : am_M) (h : XB_X9_mean_53_e c7 v1 M = some (x, M')) : am_R none 182 bk_X9_mean 0 (am_ent 5 [.inr (.inr (some 53)), .inl v1]) [] SH M (am_rv (am_rk 182) x) SH M' :=
  vRegion (sc := none) (sh := SH) (F := F_X9_mean_53) (k := 182) (bs := bk_X9_mean) (r := (x, M')) (C := fun t lv st M => if t = 7 then vCt [56, 1, 2, 0, 1] (un3 c7) lv st M else none) ok_X9_mean fs_X9_mean_53 (fun t lv st M h => by
    split at h
    · rename_i e; subst e; exact vCt_s (un3_s h7) h
    cases h) 12 0 (am_ent 5 [.inr (.inr (some 53)), .inl v1]) [] M h
noncomputable def XL_X9_mean_53_7 (k9 : Int → Int → am_M → am_Rs) : Nat → Int → Int → Int → am_M → am_Rs
  | 0, _, _, _, _ => none
  | n + 1, v1, v2, v4, M => XB_X9_mean_53_7 (XL_X9_mean_53_7 k9 n) k9 v1 v2 v4 M
theorem ls_X9_mean_53_7 {x : Int} {M' : am_M} {k9 : Int → Int → am_M → am_Rs} (hk9 : ∀ w1 w2 M, k9 w1 w2 M = some (x, M') → am_R none 182 bk_X9_mean 9 (am_wr [56, 1, 2, 0, 0] [w1, w2]) [] SH M (am_rv (am_rk 182) x) SH M') : ∀ (n : Nat) (v1 v2 v4 : Int) (M : am_M), XL_X9_mean_53_7 k9 n v1 v2 v4 M = some (x, M') → am_R none 182 bk_X9_mean 7 (am_wr [56, 1, 2, 0, 1] [v1, v2, v4]) [] SH M (am_rv (am_rk 182) x) SH M'
  | 0, v1, v2, v4, M, h => by cases h
  | n + 1, v1, v2, v4, M, h => rs_X9_mean_53_7 (ls_X9_mean_53_7 hk9 n) hk9 v1 v2 v4 M h
noncomputable def X_X9_mean_53 (v1 : Int) (M : am_M) : am_Rs := XB_X9_mean_53_e (XL_X9_mean_53_7 (XB_X9_mean_53_9) 1000) v1 M
theorem dc_X9_mean_53 (v1 : Int) (M M' : am_M) (x : Int) (h : X_X9_mean_53 v1 M = some (x, M')) : am_Calls 182 [.inr (.inr (some 53)), .inl v1] SH M (am_rv (am_rk 182) x) SH M' :=
  am_enter pn_X9_mean ml_X9_mean rfl (Nat.le_of_ble_eq_true rfl) ⟨Nat.le_refl _, Nat.le_refl _⟩ (rs_X9_mean_53_e (ls_X9_mean_53_7 (rs_X9_mean_53_9) 1000) v1 M h)
noncomputable def F_X9_isText : Nat → List am_V → am_M → am_Rs := fun k as M => if k = 168 then (match as with
  | [.inr (.inl a0), .inr (.inl a2), .inr (.inl a4)] => X_X9_in a0 a2 a4 M
  | _ => none) else none
theorem fs_X9_isText : am_FS SH F_X9_isText := by
  intro k as M x M' h
  unfold F_X9_isText at h
  split at h
  · rename_i hk; subst hk
    split at h
    · exact dc_X9_in _ _ _ _ _ _ h
    · cases h
  cases h
noncomputable def X_X9_isText (v0 : Int) (M : am_M) : am_Rs :=
  (X_X9_in (wI v0) 0 3 M).bind fun z1 =>
  if z1.1 = 0 ∨ z1.1 = 1 then
  some (z1.1, z1.2)
  else none
set_option maxRecDepth 100000 in
theorem dc_X9_isText (v0 : Int) (M M' : am_M) (x : Int) (h : X_X9_isText v0 M = some (x, M')) : am_Calls 173 [.inl v0] SH M (am_rv (am_rk 173) x) SH M' :=
  vCall (F := F_X9_isText) (C := fun _ _ _ _ => none) (fu := 3) ok_X9_isText pn_X9_isText ml_X9_isText rfl (Nat.le_of_ble_eq_true rfl) fs_X9_isText (fun _ _ _ _ h => by cases h) h
noncomputable def F_X9_text_53 : Nat → List am_V → am_M → am_Rs := fun k as M => if k = 170 then (match as with
  | [.inr (.inr (some 53)), .inl a1] => X_X9_find_53 a1 M
  | _ => none) else if k = 173 then (match as with
  | [.inl a0] => X_X9_isText a0 M
  | _ => none) else none
theorem fs_X9_text_53 : am_FS SH F_X9_text_53 := by
  intro k as M x M' h
  unfold F_X9_text_53 at h
  split at h
  · rename_i hk; subst hk
    split at h
    · exact dc_X9_find_53 _ _ _ _ h
    · cases h
  split at h
  · rename_i hk; subst hk
    split at h
    · exact dc_X9_isText _ _ _ _ h
    · cases h
  cases h
noncomputable def XB_X9_text_53_6 (c6 : Int → Int → Int → am_M → am_Rs) (c8 : Int → am_M → am_Rs) (v1 v2 v3 : Int) (M : am_M) : am_Rs :=
  if wI v3 < 60 then
   if 0 ≤ wI ((60 * v1) + v3) ∧ wI ((60 * v1) + v3) < 240 then
   c6 v1 v2 (v3 + 1) (am_up M 60 (wI ((60 * v1) + v3)).toNat 32)
   else none
  else c8 v2 M
set_option maxRecDepth 100000 in
theorem rs_X9_text_53_6 {x : Int} {M' : am_M} {c6 : Int → Int → Int → am_M → am_Rs} {c8 : Int → am_M → am_Rs} (h6 : ∀ w1 w2 w3 M, c6 w1 w2 w3 M = some (x, M') → am_R none 183 bk_X9_text 6 (am_wr [56, 1, 1, 1] [w1, w2, w3]) [] SH M (am_rv (am_rk 183) x) SH M') (h8 : ∀ w2 M, c8 w2 M = some (x, M') → am_R none 183 bk_X9_text 8 (am_wr [0, 0, 1, 0] [w2]) [] SH M (am_rv (am_rk 183) x) SH M') (v1 v2 v3 : Int) (M : am_M) (h : XB_X9_text_53_6 c6 c8 v1 v2 v3 M = some (x, M')) : am_R none 183 bk_X9_text 6 (am_wr [56, 1, 1, 1] [v1, v2, v3]) [] SH M (am_rv (am_rk 183) x) SH M' :=
  vRegion (sc := none) (sh := SH) (F := F_X9_text_53) (k := 183) (bs := bk_X9_text) (r := (x, M')) (C := fun t lv st M => if t = 6 then vCt [56, 1, 1, 1] (un3 c6) lv st M else if t = 8 then vCt [0, 0, 1, 0] (un1 c8) lv st M else none) ok_X9_text fs_X9_text_53 (fun t lv st M h => by
    split at h
    · rename_i e; subst e; exact vCt_s (un3_s h6) h
    split at h
    · rename_i e; subst e; exact vCt_s (un1_s h8) h
    cases h) 11 6 (am_wr [56, 1, 1, 1] [v1, v2, v3]) [] M h
noncomputable def XB_X9_text_53_8 (v2 : Int) (M : am_M) : am_Rs :=
  some (v2, M)
set_option maxRecDepth 100000 in
theorem rs_X9_text_53_8 {x : Int} {M' : am_M} (v2 : Int) (M : am_M) (h : XB_X9_text_53_8 v2 M = some (x, M')) : am_R none 183 bk_X9_text 8 (am_wr [0, 0, 1, 0] [v2]) [] SH M (am_rv (am_rk 183) x) SH M' :=
  vRegion (sc := none) (sh := SH) (F := F_X9_text_53) (k := 183) (bs := bk_X9_text) (r := (x, M')) (C := fun t lv st M => none) ok_X9_text fs_X9_text_53 (fun t lv st M h => by
    cases h) 11 8 (am_wr [0, 0, 1, 0] [v2]) [] M h
noncomputable def XB_X9_text_53_e (c6 : Int → Int → Int → am_M → am_Rs) (v1 v2 : Int) (M : am_M) : am_Rs :=
  (X_X9_isText v1 M).bind fun z1 =>
  if wI z1.1 = 0 then
   some ((-1), z1.2)
  else if 60 < wI v2 then
   some ((-1), z1.2)
  else if wI v2 < 0 then
   (X_X9_find_53 5 z1.2).bind fun z2 =>
   some (z2.1, z2.2)
  else if 0 ≤ wI v1 ∧ wI v1 < 4 then
  c6 v1 v2 0 (am_up z1.2 59 (wI v1).toNat v2)
  else none
set_option maxRecDepth 100000 in
theorem rs_X9_text_53_e {x : Int} {M' : am_M} {c6 : Int → Int → Int → am_M → am_Rs} (h6 : ∀ w1 w2 w3 M, c6 w1 w2 w3 M = some (x, M') → am_R none 183 bk_X9_text 6 (am_wr [56, 1, 1, 1] [w1, w2, w3]) [] SH M (am_rv (am_rk 183) x) SH M') (v1 v2 : Int) (M : am_M) (h : XB_X9_text_53_e c6 v1 v2 M = some (x, M')) : am_R none 183 bk_X9_text 0 (am_ent 4 [.inr (.inr (some 53)), .inl v1, .inl v2]) [] SH M (am_rv (am_rk 183) x) SH M' :=
  vRegion (sc := none) (sh := SH) (F := F_X9_text_53) (k := 183) (bs := bk_X9_text) (r := (x, M')) (C := fun t lv st M => if t = 6 then vCt [56, 1, 1, 1] (un3 c6) lv st M else none) ok_X9_text fs_X9_text_53 (fun t lv st M h => by
    split at h
    · rename_i e; subst e; exact vCt_s (un3_s h6) h
    cases h) 11 0 (am_ent 4 [.inr (.inr (some 53)), .inl v1, .inl v2]) [] M h
noncomputable def XL_X9_text_53_6 (k8 : Int → am_M → am_Rs) : Nat → Int → Int → Int → am_M → am_Rs
  | 0, _, _, _, _ => none
  | n + 1, v1, v2, v3, M => XB_X9_text_53_6 (XL_X9_text_53_6 k8 n) k8 v1 v2 v3 M
theorem ls_X9_text_53_6 {x : Int} {M' : am_M} {k8 : Int → am_M → am_Rs} (hk8 : ∀ w2 M, k8 w2 M = some (x, M') → am_R none 183 bk_X9_text 8 (am_wr [0, 0, 1, 0] [w2]) [] SH M (am_rv (am_rk 183) x) SH M') : ∀ (n : Nat) (v1 v2 v3 : Int) (M : am_M), XL_X9_text_53_6 k8 n v1 v2 v3 M = some (x, M') → am_R none 183 bk_X9_text 6 (am_wr [56, 1, 1, 1] [v1, v2, v3]) [] SH M (am_rv (am_rk 183) x) SH M'
  | 0, v1, v2, v3, M, h => by cases h
  | n + 1, v1, v2, v3, M, h => rs_X9_text_53_6 (ls_X9_text_53_6 hk8 n) hk8 v1 v2 v3 M h
noncomputable def X_X9_text_53 (v1 v2 : Int) (M : am_M) : am_Rs := XB_X9_text_53_e (XL_X9_text_53_6 (XB_X9_text_53_8) 1000) v1 v2 M
theorem dc_X9_text_53 (v1 v2 : Int) (M M' : am_M) (x : Int) (h : X_X9_text_53 v1 v2 M = some (x, M')) : am_Calls 183 [.inr (.inr (some 53)), .inl v1, .inl v2] SH M (am_rv (am_rk 183) x) SH M' :=
  am_enter pn_X9_text ml_X9_text rfl (Nat.le_of_ble_eq_true rfl) ⟨Nat.le_refl _, Nat.le_refl _⟩ (rs_X9_text_53_e (ls_X9_text_53_6 (rs_X9_text_53_8) 1000) v1 v2 M h)
noncomputable def F_X9_put_53 : Nat → List am_V → am_M → am_Rs := fun k as M => if k = 168 then (match as with
  | [.inr (.inl a0), .inr (.inl a2), .inr (.inl a4)] => X_X9_in a0 a2 a4 M
  | _ => none) else if k = 170 then (match as with
  | [.inr (.inr (some 53)), .inl a1] => X_X9_find_53 a1 M
  | _ => none) else if k = 173 then (match as with
  | [.inl a0] => X_X9_isText a0 M
  | _ => none) else none
theorem fs_X9_put_53 : am_FS SH F_X9_put_53 := by
  intro k as M x M' h
  unfold F_X9_put_53 at h
  split at h
  · rename_i hk; subst hk
    split at h
    · exact dc_X9_in _ _ _ _ _ _ h
    · cases h
  split at h
  · rename_i hk; subst hk
    split at h
    · exact dc_X9_find_53 _ _ _ _ h
    · cases h
  split at h
  · rename_i hk; subst hk
    split at h
    · exact dc_X9_isText _ _ _ _ h
    · cases h
  cases h
noncomputable def X_X9_put_53 (v1 v2 v3 : Int) (M : am_M) : am_Rs :=
  (X_X9_isText v1 M).bind fun z1 =>
  if wI z1.1 = 0 then
   some ((-1), z1.2)
  else if 0 ≤ wI v1 ∧ wI v1 < 4 then
  if wI (z1.2 59 (wI v1).toNat) < 0 then
    (X_X9_find_53 1 z1.2).bind fun z2 =>
    some (z2.1, z2.2)
   else if 0 ≤ wI v1 ∧ wI v1 < 4 then
   (X_X9_in (wI v2) 0 (wI ((z1.2 59 (wI v1).toNat) - 1)) z1.2).bind fun z2 =>
    if wI z2.1 = 0 then
     (X_X9_find_53 2 z2.2).bind fun z3 =>
     some (z3.1, z3.2)
    else if 0 ≤ wI ((60 * v1) + v2) ∧ wI ((60 * v1) + v2) < 240 then
    if 0 ≤ wI ((60 * v1) + v2) ∧ wI ((60 * v1) + v2) < 240 then
     some ((z2.2 60 (wI ((60 * v1) + v2)).toNat) + 1000, (am_up z2.2 60 (wI ((60 * v1) + v2)).toNat (wB v3)))
     else none
    else none
   else none
  else none
set_option maxRecDepth 100000 in
theorem dc_X9_put_53 (v1 v2 v3 : Int) (M M' : am_M) (x : Int) (h : X_X9_put_53 v1 v2 v3 M = some (x, M')) : am_Calls 184 [.inr (.inr (some 53)), .inl v1, .inl v2, .inl v3] SH M (am_rv (am_rk 184) x) SH M' :=
  vCall (F := F_X9_put_53) (C := fun _ _ _ _ => none) (fu := 9) ok_X9_put pn_X9_put ml_X9_put rfl (Nat.le_of_ble_eq_true rfl) fs_X9_put_53 (fun _ _ _ _ h => by cases h) h
noncomputable def X_X9_here_53 (M : am_M) : am_Rs :=
  if 0 ≤ wI ((M 53 13) + (M 53 14)) ∧ wI ((M 53 13) + (M 53 14)) < 240 then
  some (M 60 (wI ((M 53 13) + (M 53 14))).toNat, M)
  else none
set_option maxRecDepth 100000 in
theorem dc_X9_here_53 (M M' : am_M) (x : Int) (h : X_X9_here_53 M = some (x, M')) : am_Calls 185 [.inr (.inr (some 53))] SH M (am_rv (am_rk 185) x) SH M' :=
  vCall (F := F_none) (C := fun _ _ _ _ => none) (fu := 3) ok_X9_here pn_X9_here ml_X9_here rfl (Nat.le_of_ble_eq_true rfl) fs_none (fun _ _ _ _ h => by cases h) h
noncomputable def F_X9_skip_53 : Nat → List am_V → am_M → am_Rs := fun k as M => if k = 185 then (match as with
  | [.inr (.inr (some 53))] => X_X9_here_53 M
  | _ => none) else none
theorem fs_X9_skip_53 : am_FS SH F_X9_skip_53 := by
  intro k as M x M' h
  unfold F_X9_skip_53 at h
  split at h
  · rename_i hk; subst hk
    split at h
    · exact dc_X9_here_53 _ _ _ h
    · cases h
  cases h
noncomputable def XB_X9_skip_53_0 (c0 : am_M → am_Rs) (c3 : am_M → am_Rs) (M : am_M) : am_Rs :=
  if wI (M 53 14) < wI (M 53 15) then
   (X_X9_here_53 M).bind fun z1 =>
   if wI z1.1 = 32 then
    c0 (am_up z1.2 53 14 ((z1.2 53 14) + 1))
   else c3 z1.2
  else c3 M
set_option maxRecDepth 100000 in
theorem rs_X9_skip_53_0 {x : Int} {M' : am_M} {c0 : am_M → am_Rs} {c3 : am_M → am_Rs} (h0 : ∀ M, c0 M = some (x, M') → am_R none 186 bk_X9_skip 0 (am_wr [56] []) [] SH M (am_rv (am_rk 186) x) SH M') (h3 : ∀ M, c3 M = some (x, M') → am_R none 186 bk_X9_skip 3 (am_wr [0] []) [] SH M (am_rv (am_rk 186) x) SH M') (M : am_M) (h : XB_X9_skip_53_0 c0 c3 M = some (x, M')) : am_R none 186 bk_X9_skip 0 (am_wr [56] []) [] SH M (am_rv (am_rk 186) x) SH M' :=
  vRegion (sc := none) (sh := SH) (F := F_X9_skip_53) (k := 186) (bs := bk_X9_skip) (r := (x, M')) (C := fun t lv st M => if t = 0 then vCt [56] (un0 c0) lv st M else if t = 3 then vCt [0] (un0 c3) lv st M else none) ok_X9_skip fs_X9_skip_53 (fun t lv st M h => by
    split at h
    · rename_i e; subst e; exact vCt_s (un0_s h0) h
    split at h
    · rename_i e; subst e; exact vCt_s (un0_s h3) h
    cases h) 6 0 (am_wr [56] []) [] M h
noncomputable def XB_X9_skip_53_3 (M : am_M) : am_Rs :=
  some (0, M)
set_option maxRecDepth 100000 in
theorem rs_X9_skip_53_3 {x : Int} {M' : am_M} (M : am_M) (h : XB_X9_skip_53_3 M = some (x, M')) : am_R none 186 bk_X9_skip 3 (am_wr [0] []) [] SH M (am_rv (am_rk 186) x) SH M' :=
  vRegion (sc := none) (sh := SH) (F := F_X9_skip_53) (k := 186) (bs := bk_X9_skip) (r := (x, M')) (C := fun t lv st M => none) ok_X9_skip fs_X9_skip_53 (fun t lv st M h => by
    cases h) 6 3 (am_wr [0] []) [] M h
noncomputable def XB_X9_skip_53_e (c0 : am_M → am_Rs) (c3 : am_M → am_Rs) (M : am_M) : am_Rs :=
  if wI (M 53 14) < wI (M 53 15) then
   (X_X9_here_53 M).bind fun z1 =>
   if wI z1.1 = 32 then
    c0 (am_up z1.2 53 14 ((z1.2 53 14) + 1))
   else c3 z1.2
  else c3 M
set_option maxRecDepth 100000 in
theorem rs_X9_skip_53_e {x : Int} {M' : am_M} {c0 : am_M → am_Rs} {c3 : am_M → am_Rs} (h0 : ∀ M, c0 M = some (x, M') → am_R none 186 bk_X9_skip 0 (am_wr [56] []) [] SH M (am_rv (am_rk 186) x) SH M') (h3 : ∀ M, c3 M = some (x, M') → am_R none 186 bk_X9_skip 3 (am_wr [0] []) [] SH M (am_rv (am_rk 186) x) SH M') (M : am_M) (h : XB_X9_skip_53_e c0 c3 M = some (x, M')) : am_R none 186 bk_X9_skip 0 (am_ent 1 [.inr (.inr (some 53))]) [] SH M (am_rv (am_rk 186) x) SH M' :=
  vRegion (sc := none) (sh := SH) (F := F_X9_skip_53) (k := 186) (bs := bk_X9_skip) (r := (x, M')) (C := fun t lv st M => if t = 0 then vCt [56] (un0 c0) lv st M else if t = 3 then vCt [0] (un0 c3) lv st M else none) ok_X9_skip fs_X9_skip_53 (fun t lv st M h => by
    split at h
    · rename_i e; subst e; exact vCt_s (un0_s h0) h
    split at h
    · rename_i e; subst e; exact vCt_s (un0_s h3) h
    cases h) 6 0 (am_ent 1 [.inr (.inr (some 53))]) [] M h
noncomputable def XL_X9_skip_53_0 (k3 : am_M → am_Rs) : Nat → am_M → am_Rs
  | 0, _ => none
  | n + 1, M => XB_X9_skip_53_0 (XL_X9_skip_53_0 k3 n) k3 M
theorem ls_X9_skip_53_0 {x : Int} {M' : am_M} {k3 : am_M → am_Rs} (hk3 : ∀ M, k3 M = some (x, M') → am_R none 186 bk_X9_skip 3 (am_wr [0] []) [] SH M (am_rv (am_rk 186) x) SH M') : ∀ (n : Nat) (M : am_M), XL_X9_skip_53_0 k3 n M = some (x, M') → am_R none 186 bk_X9_skip 0 (am_wr [56] []) [] SH M (am_rv (am_rk 186) x) SH M'
  | 0, M, h => by cases h
  | n + 1, M, h => rs_X9_skip_53_0 (ls_X9_skip_53_0 hk3 n) hk3 M h
noncomputable def X_X9_skip_53 (M : am_M) : am_Rs := XB_X9_skip_53_e (XL_X9_skip_53_0 (XB_X9_skip_53_3) 1000) (XB_X9_skip_53_3) M
theorem dc_X9_skip_53 (M M' : am_M) (x : Int) (h : X_X9_skip_53 M = some (x, M')) : am_Calls 186 [.inr (.inr (some 53))] SH M (am_rv (am_rk 186) x) SH M' :=
  am_enter pn_X9_skip ml_X9_skip rfl (Nat.le_of_ble_eq_true rfl) ⟨Nat.le_refl _, Nat.le_refl _⟩ (rs_X9_skip_53_e (ls_X9_skip_53_0 (rs_X9_skip_53_3) 1000) (rs_X9_skip_53_3) M h)
noncomputable def F_X9_kindHere_53 : Nat → List am_V → am_M → am_Rs := fun k as M => if k = 185 then (match as with
  | [.inr (.inr (some 53))] => X_X9_here_53 M
  | _ => none) else none
theorem fs_X9_kindHere_53 : am_FS SH F_X9_kindHere_53 := by
  intro k as M x M' h
  unfold F_X9_kindHere_53 at h
  split at h
  · rename_i hk; subst hk
    split at h
    · exact dc_X9_here_53 _ _ _ h
    · cases h
  cases h
noncomputable def X_X9_kindHere_53 (M : am_M) : am_Rs :=
  (X_X9_here_53 M).bind fun z1 =>
  if wI z1.1 = 115 then
   some (0, z1.2)
  else if wI z1.1 = 102 then
   some (1, z1.2)
  else if wI z1.1 = 119 then
   some (2, z1.2)
  else if wI z1.1 = 114 then
   some (3, z1.2)
  else if wI z1.1 = 105 then
   some (4, z1.2)
  else if wI z1.1 = 116 then
   some (5, z1.2)
  else some ((-9), z1.2)
set_option maxRecDepth 100000 in
theorem dc_X9_kindHere_53 (M M' : am_M) (x : Int) (h : X_X9_kindHere_53 M = some (x, M')) : am_Calls 188 [.inr (.inr (some 53))] SH M (am_rv (am_rk 188) x) SH M' :=
  vCall (F := F_X9_kindHere_53) (C := fun _ _ _ _ => none) (fu := 16) ok_X9_kindHere pn_X9_kindHere ml_X9_kindHere rfl (Nat.le_of_ble_eq_true rfl) fs_X9_kindHere_53 (fun _ _ _ _ h => by cases h) h
noncomputable def F_X9_figure_53 : Nat → List am_V → am_M → am_Rs := fun k as M => if k = 168 then (match as with
  | [.inr (.inl a0), .inr (.inl a2), .inr (.inl a4)] => X_X9_in a0 a2 a4 M
  | _ => none) else if k = 185 then (match as with
  | [.inr (.inr (some 53))] => X_X9_here_53 M
  | _ => none) else none
theorem fs_X9_figure_53 : am_FS SH F_X9_figure_53 := by
  intro k as M x M' h
  unfold F_X9_figure_53 at h
  split at h
  · rename_i hk; subst hk
    split at h
    · exact dc_X9_in _ _ _ _ _ _ h
    · cases h
  split at h
  · rename_i hk; subst hk
    split at h
    · exact dc_X9_here_53 _ _ _ h
    · cases h
  cases h
noncomputable def X_X9_figure_53 (v1 v2 : Int) (M : am_M) : am_Rs :=
  if wI (M 53 14) = wI (M 53 15) then
   some ((-9), M)
  else (X_X9_here_53 M).bind fun z1 =>
  (X_X9_in (wI z1.1) (wI (48 + v1)) (wI (48 + v2)) z1.2).bind fun z2 =>
  if wI z2.1 = 0 then
   some ((-9), z2.2)
  else if 0 ≤ wI ((((am_up z2.2 53 14 ((z2.2 53 14) + 1)) 53 13) + ((am_up z2.2 53 14 ((z2.2 53 14) + 1)) 53 14)) - 1) ∧ wI ((((am_up z2.2 53 14 ((z2.2 53 14) + 1)) 53 13) + ((am_up z2.2 53 14 ((z2.2 53 14) + 1)) 53 14)) - 1) < 240 then
  some (((am_up z2.2 53 14 ((z2.2 53 14) + 1)) 60 (wI ((((am_up z2.2 53 14 ((z2.2 53 14) + 1)) 53 13) + ((am_up z2.2 53 14 ((z2.2 53 14) + 1)) 53 14)) - 1)).toNat) - 48, (am_up z2.2 53 14 ((z2.2 53 14) + 1)))
  else none
set_option maxRecDepth 100000 in
theorem dc_X9_figure_53 (v1 v2 : Int) (M M' : am_M) (x : Int) (h : X_X9_figure_53 v1 v2 M = some (x, M')) : am_Calls 187 [.inr (.inr (some 53)), .inl v1, .inl v2] SH M (am_rv (am_rk 187) x) SH M' :=
  vCall (F := F_X9_figure_53) (C := fun _ _ _ _ => none) (fu := 6) ok_X9_figure pn_X9_figure ml_X9_figure rfl (Nat.le_of_ble_eq_true rfl) fs_X9_figure_53 (fun _ _ _ _ h => by cases h) h
noncomputable def F_X9_readsStrip_53 : Nat → List am_V → am_M → am_Rs := fun k as M => if k = 187 then (match as with
  | [.inr (.inr (some 53)), .inl a1, .inl a2] => X_X9_figure_53 a1 a2 M
  | _ => none) else if k = 188 then (match as with
  | [.inr (.inr (some 53))] => X_X9_kindHere_53 M
  | _ => none) else none
theorem fs_X9_readsStrip_53 : am_FS SH F_X9_readsStrip_53 := by
  intro k as M x M' h
  unfold F_X9_readsStrip_53 at h
  split at h
  · rename_i hk; subst hk
    split at h
    · exact dc_X9_figure_53 _ _ _ _ _ h
    · cases h
  split at h
  · rename_i hk; subst hk
    split at h
    · exact dc_X9_kindHere_53 _ _ _ h
    · cases h
  cases h
noncomputable def X_X9_readsStrip_53 (M : am_M) : am_Rs :=
  (X_X9_kindHere_53 M).bind fun z1 =>
  if wI z1.1 = (-9) then
   some (0, z1.2)
  else if wI (z1.2 53 17) = 12 then
   some (0, z1.2)
  else (X_X9_figure_53 0 9 (am_up z1.2 53 14 ((z1.2 53 14) + 1))).bind fun z2 =>
  if wI z2.1 = (-9) then
   some (0, z2.2)
  else if 0 ≤ wI (2 * (z2.2 53 17)) ∧ wI (2 * (z2.2 53 17)) < 24 then
  if 0 ≤ wI ((2 * ((am_up z2.2 62 (wI (2 * (z2.2 53 17))).toNat z1.1) 53 17)) + 1) ∧ wI ((2 * ((am_up z2.2 62 (wI (2 * (z2.2 53 17))).toNat z1.1) 53 17)) + 1) < 24 then
   some (1, (am_up (am_up (am_up z2.2 62 (wI (2 * (z2.2 53 17))).toNat z1.1) 62 (wI ((2 * ((am_up z2.2 62 (wI (2 * (z2.2 53 17))).toNat z1.1) 53 17)) + 1)).toNat z2.1) 53 17 (((am_up (am_up z2.2 62 (wI (2 * (z2.2 53 17))).toNat z1.1) 62 (wI ((2 * ((am_up z2.2 62 (wI (2 * (z2.2 53 17))).toNat z1.1) 53 17)) + 1)).toNat z2.1) 53 17) + 1)))
   else none
  else none
set_option maxRecDepth 100000 in
theorem dc_X9_readsStrip_53 (M M' : am_M) (x : Int) (h : X_X9_readsStrip_53 M = some (x, M')) : am_Calls 189 [.inr (.inr (some 53))] SH M (am_rv (am_rk 189) x) SH M' :=
  vCall (F := F_X9_readsStrip_53) (C := fun _ _ _ _ => none) (fu := 8) ok_X9_readsStrip pn_X9_readsStrip ml_X9_readsStrip rfl (Nat.le_of_ble_eq_true rfl) fs_X9_readsStrip_53 (fun _ _ _ _ h => by cases h) h
noncomputable def F_X9_readsEnd_53 : Nat → List am_V → am_M → am_Rs := fun k as M => if k = 186 then (match as with
  | [.inr (.inr (some 53))] => X_X9_skip_53 M
  | _ => none) else if k = 187 then (match as with
  | [.inr (.inr (some 53)), .inl a1, .inl a2] => X_X9_figure_53 a1 a2 M
  | _ => none) else none
theorem fs_X9_readsEnd_53 : am_FS SH F_X9_readsEnd_53 := by
  intro k as M x M' h
  unfold F_X9_readsEnd_53 at h
  split at h
  · rename_i hk; subst hk
    split at h
    · exact dc_X9_skip_53 _ _ _ h
    · cases h
  split at h
  · rename_i hk; subst hk
    split at h
    · exact dc_X9_figure_53 _ _ _ _ _ h
    · cases h
  cases h
noncomputable def XB_X9_readsEnd_53_3 (c3 : Int → am_M → am_Rs) (c13 : am_M → am_Rs) (v1 : Int) (M : am_M) : am_Rs :=
  if wI v1 < 3 then
   if wI v1 = 0 then
    if wI (M 53 17) < 9 then
     (X_X9_figure_53 0 (M 53 17) M).bind fun z1 =>
     if 0 ≤ wI v1 ∧ wI v1 < 3 then
     if 0 ≤ wI v1 ∧ wI v1 < 3 then
      if wI ((am_up z1.2 63 (wI v1).toNat z1.1) 63 (wI v1).toNat) = (-9) then
        some (0, (am_up z1.2 63 (wI v1).toNat z1.1))
       else c3 (v1 + 1) (am_up z1.2 63 (wI v1).toNat z1.1)
      else none
     else none
    else (X_X9_figure_53 0 9 M).bind fun z1 =>
    if 0 ≤ wI v1 ∧ wI v1 < 3 then
    if 0 ≤ wI v1 ∧ wI v1 < 3 then
     if wI ((am_up z1.2 63 (wI v1).toNat z1.1) 63 (wI v1).toNat) = (-9) then
       some (0, (am_up z1.2 63 (wI v1).toNat z1.1))
      else c3 (v1 + 1) (am_up z1.2 63 (wI v1).toNat z1.1)
     else none
    else none
   else (X_X9_figure_53 1 9 M).bind fun z1 =>
   if 0 ≤ wI v1 ∧ wI v1 < 3 then
   if 0 ≤ wI v1 ∧ wI v1 < 3 then
    if wI ((am_up z1.2 63 (wI v1).toNat z1.1) 63 (wI v1).toNat) = (-9) then
      some (0, (am_up z1.2 63 (wI v1).toNat z1.1))
     else c3 (v1 + 1) (am_up z1.2 63 (wI v1).toNat z1.1)
    else none
   else none
  else c13 M
set_option maxRecDepth 100000 in
theorem rs_X9_readsEnd_53_3 {x : Int} {M' : am_M} {c3 : Int → am_M → am_Rs} {c13 : am_M → am_Rs} (h3 : ∀ w1 M, c3 w1 M = some (x, M') → am_R none 190 bk_X9_readsEnd 3 (am_wr [56, 1] [w1]) [] SH M (am_rv (am_rk 190) x) SH M') (h13 : ∀ M, c13 M = some (x, M') → am_R none 190 bk_X9_readsEnd 13 (am_wr [56, 0] []) [] SH M (am_rv (am_rk 190) x) SH M') (v1 : Int) (M : am_M) (h : XB_X9_readsEnd_53_3 c3 c13 v1 M = some (x, M')) : am_R none 190 bk_X9_readsEnd 3 (am_wr [56, 1] [v1]) [] SH M (am_rv (am_rk 190) x) SH M' :=
  vRegion (sc := none) (sh := SH) (F := F_X9_readsEnd_53) (k := 190) (bs := bk_X9_readsEnd) (r := (x, M')) (C := fun t lv st M => if t = 3 then vCt [56, 1] (un1 c3) lv st M else if t = 13 then vCt [56, 0] (un0 c13) lv st M else none) ok_X9_readsEnd fs_X9_readsEnd_53 (fun t lv st M h => by
    split at h
    · rename_i e; subst e; exact vCt_s (un1_s h3) h
    split at h
    · rename_i e; subst e; exact vCt_s (un0_s h13) h
    cases h) 19 3 (am_wr [56, 1] [v1]) [] M h
noncomputable def XB_X9_readsEnd_53_13 (M : am_M) : am_Rs :=
  (X_X9_skip_53 M).bind fun z1 =>
  if wI (z1.2 53 14) = wI (z1.2 53 15) then
   some (1, z1.2)
  else some (0, z1.2)
set_option maxRecDepth 100000 in
theorem rs_X9_readsEnd_53_13 {x : Int} {M' : am_M} (M : am_M) (h : XB_X9_readsEnd_53_13 M = some (x, M')) : am_R none 190 bk_X9_readsEnd 13 (am_wr [56, 0] []) [] SH M (am_rv (am_rk 190) x) SH M' :=
  vRegion (sc := none) (sh := SH) (F := F_X9_readsEnd_53) (k := 190) (bs := bk_X9_readsEnd) (r := (x, M')) (C := fun t lv st M => none) ok_X9_readsEnd fs_X9_readsEnd_53 (fun t lv st M h => by
    cases h) 19 13 (am_wr [56, 0] []) [] M h
noncomputable def XB_X9_readsEnd_53_e (c3 : Int → am_M → am_Rs) (M : am_M) : am_Rs :=
  if wI (M 53 17) < 2 then
   some (0, M)
  else c3 0 (am_up M 53 14 ((M 53 14) + 1))
set_option maxRecDepth 100000 in
theorem rs_X9_readsEnd_53_e {x : Int} {M' : am_M} {c3 : Int → am_M → am_Rs} (h3 : ∀ w1 M, c3 w1 M = some (x, M') → am_R none 190 bk_X9_readsEnd 3 (am_wr [56, 1] [w1]) [] SH M (am_rv (am_rk 190) x) SH M') (M : am_M) (h : XB_X9_readsEnd_53_e c3 M = some (x, M')) : am_R none 190 bk_X9_readsEnd 0 (am_ent 2 [.inr (.inr (some 53))]) [] SH M (am_rv (am_rk 190) x) SH M' :=
  vRegion (sc := none) (sh := SH) (F := F_X9_readsEnd_53) (k := 190) (bs := bk_X9_readsEnd) (r := (x, M')) (C := fun t lv st M => if t = 3 then vCt [56, 1] (un1 c3) lv st M else none) ok_X9_readsEnd fs_X9_readsEnd_53 (fun t lv st M h => by
    split at h
    · rename_i e; subst e; exact vCt_s (un1_s h3) h
    cases h) 19 0 (am_ent 2 [.inr (.inr (some 53))]) [] M h
noncomputable def XL_X9_readsEnd_53_3 (k13 : am_M → am_Rs) : Nat → Int → am_M → am_Rs
  | 0, _, _ => none
  | n + 1, v1, M => XB_X9_readsEnd_53_3 (XL_X9_readsEnd_53_3 k13 n) k13 v1 M
theorem ls_X9_readsEnd_53_3 {x : Int} {M' : am_M} {k13 : am_M → am_Rs} (hk13 : ∀ M, k13 M = some (x, M') → am_R none 190 bk_X9_readsEnd 13 (am_wr [56, 0] []) [] SH M (am_rv (am_rk 190) x) SH M') : ∀ (n : Nat) (v1 : Int) (M : am_M), XL_X9_readsEnd_53_3 k13 n v1 M = some (x, M') → am_R none 190 bk_X9_readsEnd 3 (am_wr [56, 1] [v1]) [] SH M (am_rv (am_rk 190) x) SH M'
  | 0, v1, M, h => by cases h
  | n + 1, v1, M, h => rs_X9_readsEnd_53_3 (ls_X9_readsEnd_53_3 hk13 n) hk13 v1 M h
noncomputable def X_X9_readsEnd_53 (M : am_M) : am_Rs := XB_X9_readsEnd_53_e (XL_X9_readsEnd_53_3 (XB_X9_readsEnd_53_13) 1000) M
theorem dc_X9_readsEnd_53 (M M' : am_M) (x : Int) (h : X_X9_readsEnd_53 M = some (x, M')) : am_Calls 190 [.inr (.inr (some 53))] SH M (am_rv (am_rk 190) x) SH M' :=
  am_enter pn_X9_readsEnd ml_X9_readsEnd rfl (Nat.le_of_ble_eq_true rfl) ⟨Nat.le_refl _, Nat.le_refl _⟩ (rs_X9_readsEnd_53_e (ls_X9_readsEnd_53_3 (rs_X9_readsEnd_53_13) 1000) M h)
noncomputable def F_X9_faultOf_53 : Nat → List am_V → am_M → am_Rs := fun k as M => if k = 185 then (match as with
  | [.inr (.inr (some 53))] => X_X9_here_53 M
  | _ => none) else if k = 186 then (match as with
  | [.inr (.inr (some 53))] => X_X9_skip_53 M
  | _ => none) else if k = 189 then (match as with
  | [.inr (.inr (some 53))] => X_X9_readsStrip_53 M
  | _ => none) else if k = 190 then (match as with
  | [.inr (.inr (some 53))] => X_X9_readsEnd_53 M
  | _ => none) else none
theorem fs_X9_faultOf_53 : am_FS SH F_X9_faultOf_53 := by
  intro k as M x M' h
  unfold F_X9_faultOf_53 at h
  split at h
  · rename_i hk; subst hk
    split at h
    · exact dc_X9_here_53 _ _ _ h
    · cases h
  split at h
  · rename_i hk; subst hk
    split at h
    · exact dc_X9_skip_53 _ _ _ h
    · cases h
  split at h
  · rename_i hk; subst hk
    split at h
    · exact dc_X9_readsStrip_53 _ _ _ h
    · cases h
  split at h
  · rename_i hk; subst hk
    split at h
    · exact dc_X9_readsEnd_53 _ _ _ h
    · cases h
  cases h
noncomputable def XB_X9_faultOf_53_1 (c1 : Int → am_M → am_Rs) (c6 : Int → am_M → am_Rs) (v2 : Int) (M : am_M) : am_Rs :=
  if wI v2 = 0 then
   c6 v2 M
  else if wI (M 53 14) < wI (M 53 15) then
   (X_X9_here_53 M).bind fun z1 =>
   if wI z1.1 = 98 then
    c6 v2 z1.2
   else (X_X9_readsStrip_53 z1.2).bind fun z2 =>
   if wI z2.1 = 0 then
    c1 z2.1 z2.2
   else (X_X9_skip_53 z2.2).bind fun z3 =>
   c1 z2.1 z3.2
  else c6 v2 M
set_option maxRecDepth 100000 in
theorem rs_X9_faultOf_53_1 {x : Int} {M' : am_M} {c1 : Int → am_M → am_Rs} {c6 : Int → am_M → am_Rs} (h1 : ∀ w2 M, c1 w2 M = some (x, M') → am_R none 191 bk_X9_faultOf 1 (am_wr [56, 0, 1] [w2]) [] SH M (am_rv (am_rk 191) x) SH M') (h6 : ∀ w2 M, c6 w2 M = some (x, M') → am_R none 191 bk_X9_faultOf 6 (am_wr [56, 0, 1] [w2]) [] SH M (am_rv (am_rk 191) x) SH M') (v2 : Int) (M : am_M) (h : XB_X9_faultOf_53_1 c1 c6 v2 M = some (x, M')) : am_R none 191 bk_X9_faultOf 1 (am_wr [56, 0, 1] [v2]) [] SH M (am_rv (am_rk 191) x) SH M' :=
  vRegion (sc := none) (sh := SH) (F := F_X9_faultOf_53) (k := 191) (bs := bk_X9_faultOf) (r := (x, M')) (C := fun t lv st M => if t = 1 then vCt [56, 0, 1] (un1 c1) lv st M else if t = 6 then vCt [56, 0, 1] (un1 c6) lv st M else none) ok_X9_faultOf fs_X9_faultOf_53 (fun t lv st M h => by
    split at h
    · rename_i e; subst e; exact vCt_s (un1_s h1) h
    split at h
    · rename_i e; subst e; exact vCt_s (un1_s h6) h
    cases h) 17 1 (am_wr [56, 0, 1] [v2]) [] M h
noncomputable def XB_X9_faultOf_53_6 (v2 : Int) (M : am_M) : am_Rs :=
  if wI v2 = 0 then
   some (M 53 14, M)
  else if wI (M 53 14) < wI (M 53 15) then
   (X_X9_readsEnd_53 M).bind fun z1 =>
   if wI z1.1 = 0 then
    some (z1.2 53 14, z1.2)
   else some ((-9), z1.2)
  else some (M 53 14, M)
set_option maxRecDepth 100000 in
theorem rs_X9_faultOf_53_6 {x : Int} {M' : am_M} (v2 : Int) (M : am_M) (h : XB_X9_faultOf_53_6 v2 M = some (x, M')) : am_R none 191 bk_X9_faultOf 6 (am_wr [56, 0, 1] [v2]) [] SH M (am_rv (am_rk 191) x) SH M' :=
  vRegion (sc := none) (sh := SH) (F := F_X9_faultOf_53) (k := 191) (bs := bk_X9_faultOf) (r := (x, M')) (C := fun t lv st M => none) ok_X9_faultOf fs_X9_faultOf_53 (fun t lv st M h => by
    cases h) 17 6 (am_wr [56, 0, 1] [v2]) [] M h
noncomputable def XB_X9_faultOf_53_e (c1 : Int → am_M → am_Rs) (v1 : Int) (M : am_M) : am_Rs :=
  if 0 ≤ wI v1 ∧ wI v1 < 4 then
  (X_X9_skip_53 (am_up (am_up (am_up (am_up M 53 13 (60 * v1)) 53 14 0) 53 15 ((am_up (am_up M 53 13 (60 * v1)) 53 14 0) 59 (wI v1).toNat)) 53 17 0)).bind fun z1 =>
   c1 1 z1.2
  else none
set_option maxRecDepth 100000 in
theorem rs_X9_faultOf_53_e {x : Int} {M' : am_M} {c1 : Int → am_M → am_Rs} (h1 : ∀ w2 M, c1 w2 M = some (x, M') → am_R none 191 bk_X9_faultOf 1 (am_wr [56, 0, 1] [w2]) [] SH M (am_rv (am_rk 191) x) SH M') (v1 : Int) (M : am_M) (h : XB_X9_faultOf_53_e c1 v1 M = some (x, M')) : am_R none 191 bk_X9_faultOf 0 (am_ent 3 [.inr (.inr (some 53)), .inl v1]) [] SH M (am_rv (am_rk 191) x) SH M' :=
  vRegion (sc := none) (sh := SH) (F := F_X9_faultOf_53) (k := 191) (bs := bk_X9_faultOf) (r := (x, M')) (C := fun t lv st M => if t = 1 then vCt [56, 0, 1] (un1 c1) lv st M else none) ok_X9_faultOf fs_X9_faultOf_53 (fun t lv st M h => by
    split at h
    · rename_i e; subst e; exact vCt_s (un1_s h1) h
    cases h) 17 0 (am_ent 3 [.inr (.inr (some 53)), .inl v1]) [] M h
noncomputable def XL_X9_faultOf_53_1 (k6 : Int → am_M → am_Rs) : Nat → Int → am_M → am_Rs
  | 0, _, _ => none
  | n + 1, v2, M => XB_X9_faultOf_53_1 (XL_X9_faultOf_53_1 k6 n) k6 v2 M
theorem ls_X9_faultOf_53_1 {x : Int} {M' : am_M} {k6 : Int → am_M → am_Rs} (hk6 : ∀ w2 M, k6 w2 M = some (x, M') → am_R none 191 bk_X9_faultOf 6 (am_wr [56, 0, 1] [w2]) [] SH M (am_rv (am_rk 191) x) SH M') : ∀ (n : Nat) (v2 : Int) (M : am_M), XL_X9_faultOf_53_1 k6 n v2 M = some (x, M') → am_R none 191 bk_X9_faultOf 1 (am_wr [56, 0, 1] [v2]) [] SH M (am_rv (am_rk 191) x) SH M'
  | 0, v2, M, h => by cases h
  | n + 1, v2, M, h => rs_X9_faultOf_53_1 (ls_X9_faultOf_53_1 hk6 n) hk6 v2 M h
noncomputable def X_X9_faultOf_53 (v1 : Int) (M : am_M) : am_Rs := XB_X9_faultOf_53_e (XL_X9_faultOf_53_1 (XB_X9_faultOf_53_6) 1000) v1 M
theorem dc_X9_faultOf_53 (v1 : Int) (M M' : am_M) (x : Int) (h : X_X9_faultOf_53 v1 M = some (x, M')) : am_Calls 191 [.inr (.inr (some 53)), .inl v1] SH M (am_rv (am_rk 191) x) SH M' :=
  am_enter pn_X9_faultOf ml_X9_faultOf rfl (Nat.le_of_ble_eq_true rfl) ⟨Nat.le_refl _, Nat.le_refl _⟩ (rs_X9_faultOf_53_e (ls_X9_faultOf_53_1 (rs_X9_faultOf_53_6) 1000) v1 M h)
noncomputable def F_X9_fault_53 : Nat → List am_V → am_M → am_Rs := fun k as M => if k = 170 then (match as with
  | [.inr (.inr (some 53)), .inl a1] => X_X9_find_53 a1 M
  | _ => none) else if k = 173 then (match as with
  | [.inl a0] => X_X9_isText a0 M
  | _ => none) else if k = 191 then (match as with
  | [.inr (.inr (some 53)), .inl a1] => X_X9_faultOf_53 a1 M
  | _ => none) else none
theorem fs_X9_fault_53 : am_FS SH F_X9_fault_53 := by
  intro k as M x M' h
  unfold F_X9_fault_53 at h
  split at h
  · rename_i hk; subst hk
    split at h
    · exact dc_X9_find_53 _ _ _ _ h
    · cases h
  split at h
  · rename_i hk; subst hk
    split at h
    · exact dc_X9_isText _ _ _ _ h
    · cases h
  split at h
  · rename_i hk; subst hk
    split at h
    · exact dc_X9_faultOf_53 _ _ _ _ h
    · cases h
  cases h
noncomputable def X_X9_fault_53 (v1 : Int) (M : am_M) : am_Rs :=
  (X_X9_isText v1 M).bind fun z1 =>
  if wI z1.1 = 0 then
   some ((-1), z1.2)
  else if 0 ≤ wI v1 ∧ wI v1 < 4 then
  if wI (z1.2 59 (wI v1).toNat) < 0 then
    (X_X9_find_53 1 z1.2).bind fun z2 =>
    some (z2.1, z2.2)
   else (X_X9_faultOf_53 v1 z1.2).bind fun z2 =>
   some (z2.1, z2.2)
  else none
set_option maxRecDepth 100000 in
theorem dc_X9_fault_53 (v1 : Int) (M M' : am_M) (x : Int) (h : X_X9_fault_53 v1 M = some (x, M')) : am_Calls 192 [.inr (.inr (some 53)), .inl v1] SH M (am_rv (am_rk 192) x) SH M' :=
  vCall (F := F_X9_fault_53) (C := fun _ _ _ _ => none) (fu := 8) ok_X9_fault pn_X9_fault ml_X9_fault rfl (Nat.le_of_ble_eq_true rfl) fs_X9_fault_53 (fun _ _ _ _ h => by cases h) h
noncomputable def F_X9_land_53 : Nat → List am_V → am_M → am_Rs := fun k as M => if k = 170 then (match as with
  | [.inr (.inr (some 53)), .inl a1] => X_X9_find_53 a1 M
  | _ => none) else if k = 173 then (match as with
  | [.inl a0] => X_X9_isText a0 M
  | _ => none) else if k = 191 then (match as with
  | [.inr (.inr (some 53)), .inl a1] => X_X9_faultOf_53 a1 M
  | _ => none) else none
theorem fs_X9_land_53 : am_FS SH F_X9_land_53 := by
  intro k as M x M' h
  unfold F_X9_land_53 at h
  split at h
  · rename_i hk; subst hk
    split at h
    · exact dc_X9_find_53 _ _ _ _ h
    · cases h
  split at h
  · rename_i hk; subst hk
    split at h
    · exact dc_X9_isText _ _ _ _ h
    · cases h
  split at h
  · rename_i hk; subst hk
    split at h
    · exact dc_X9_faultOf_53 _ _ _ _ h
    · cases h
  cases h
noncomputable def XB_X9_land_53_7 (c7 : Int → am_M → am_Rs) (c9 : am_M → am_Rs) (v2 : Int) (M : am_M) : am_Rs :=
  if wI v2 < wI (M 53 1) then
   if 0 ≤ wI (2 * v2) ∧ wI (2 * v2) < 24 then
   if 0 ≤ wI v2 ∧ wI v2 < 12 then
    if 0 ≤ wI ((2 * v2) + 1) ∧ wI ((2 * v2) + 1) < 24 then
     if 0 ≤ wI v2 ∧ wI v2 < 12 then
      c7 (v2 + 1) (am_up (am_up M 55 (wI v2).toNat (M 62 (wI (2 * v2)).toNat)) 56 (wI v2).toNat ((am_up M 55 (wI v2).toNat (M 62 (wI (2 * v2)).toNat)) 62 (wI ((2 * v2) + 1)).toNat))
      else none
     else none
    else none
   else none
  else c9 M
set_option maxRecDepth 100000 in
theorem rs_X9_land_53_7 {x : Int} {M' : am_M} {c7 : Int → am_M → am_Rs} {c9 : am_M → am_Rs} (h7 : ∀ w2 M, c7 w2 M = some (x, M') → am_R none 193 bk_X9_land 7 (am_wr [56, 0, 1] [w2]) [] SH M (am_rv (am_rk 193) x) SH M') (h9 : ∀ M, c9 M = some (x, M') → am_R none 193 bk_X9_land 9 (am_wr [56, 0, 0] []) [] SH M (am_rv (am_rk 193) x) SH M') (v2 : Int) (M : am_M) (h : XB_X9_land_53_7 c7 c9 v2 M = some (x, M')) : am_R none 193 bk_X9_land 7 (am_wr [56, 0, 1] [v2]) [] SH M (am_rv (am_rk 193) x) SH M' :=
  vRegion (sc := none) (sh := SH) (F := F_X9_land_53) (k := 193) (bs := bk_X9_land) (r := (x, M')) (C := fun t lv st M => if t = 7 then vCt [56, 0, 1] (un1 c7) lv st M else if t = 9 then vCt [56, 0, 0] (un0 c9) lv st M else none) ok_X9_land fs_X9_land_53 (fun t lv st M h => by
    split at h
    · rename_i e; subst e; exact vCt_s (un1_s h7) h
    split at h
    · rename_i e; subst e; exact vCt_s (un0_s h9) h
    cases h) 18 7 (am_wr [56, 0, 1] [v2]) [] M h
noncomputable def XB_X9_land_53_9 (c10 : Int → am_M → am_Rs) (M : am_M) : am_Rs :=
  c10 0 M
set_option maxRecDepth 100000 in
theorem rs_X9_land_53_9 {x : Int} {M' : am_M} {c10 : Int → am_M → am_Rs} (h10 : ∀ w2 M, c10 w2 M = some (x, M') → am_R none 193 bk_X9_land 10 (am_wr [56, 0, 1] [w2]) [] SH M (am_rv (am_rk 193) x) SH M') (M : am_M) (h : XB_X9_land_53_9 c10 M = some (x, M')) : am_R none 193 bk_X9_land 9 (am_wr [56, 0, 0] []) [] SH M (am_rv (am_rk 193) x) SH M' :=
  vRegion (sc := none) (sh := SH) (F := F_X9_land_53) (k := 193) (bs := bk_X9_land) (r := (x, M')) (C := fun t lv st M => if t = 10 then vCt [56, 0, 1] (un1 c10) lv st M else none) ok_X9_land fs_X9_land_53 (fun t lv st M h => by
    split at h
    · rename_i e; subst e; exact vCt_s (un1_s h10) h
    cases h) 18 9 (am_wr [56, 0, 0] []) [] M h
noncomputable def XB_X9_land_53_10 (c10 : Int → am_M → am_Rs) (c12 : am_M → am_Rs) (v2 : Int) (M : am_M) : am_Rs :=
  if wI v2 < 121 then
   if 0 ≤ wI v2 ∧ wI v2 < 605 then
   c10 (v2 + 1) (am_up M 54 (wI v2).toNat 0)
   else none
  else c12 M
set_option maxRecDepth 100000 in
theorem rs_X9_land_53_10 {x : Int} {M' : am_M} {c10 : Int → am_M → am_Rs} {c12 : am_M → am_Rs} (h10 : ∀ w2 M, c10 w2 M = some (x, M') → am_R none 193 bk_X9_land 10 (am_wr [56, 0, 1] [w2]) [] SH M (am_rv (am_rk 193) x) SH M') (h12 : ∀ M, c12 M = some (x, M') → am_R none 193 bk_X9_land 12 (am_wr [56, 0, 0] []) [] SH M (am_rv (am_rk 193) x) SH M') (v2 : Int) (M : am_M) (h : XB_X9_land_53_10 c10 c12 v2 M = some (x, M')) : am_R none 193 bk_X9_land 10 (am_wr [56, 0, 1] [v2]) [] SH M (am_rv (am_rk 193) x) SH M' :=
  vRegion (sc := none) (sh := SH) (F := F_X9_land_53) (k := 193) (bs := bk_X9_land) (r := (x, M')) (C := fun t lv st M => if t = 10 then vCt [56, 0, 1] (un1 c10) lv st M else if t = 12 then vCt [56, 0, 0] (un0 c12) lv st M else none) ok_X9_land fs_X9_land_53 (fun t lv st M h => by
    split at h
    · rename_i e; subst e; exact vCt_s (un1_s h10) h
    split at h
    · rename_i e; subst e; exact vCt_s (un0_s h12) h
    cases h) 18 10 (am_wr [56, 0, 1] [v2]) [] M h
noncomputable def XB_X9_land_53_12 (c13 : Int → am_M → am_Rs) (M : am_M) : am_Rs :=
  c13 1 (am_up (am_up (am_up (am_up M 54 1 (M 63 0)) 54 120 ((am_up M 54 1 (M 63 0)) 63 0)) 54 2 ((am_up (am_up M 54 1 (M 63 0)) 54 120 ((am_up M 54 1 (M 63 0)) 63 0)) 63 1)) 54 3 ((am_up (am_up (am_up M 54 1 (M 63 0)) 54 120 ((am_up M 54 1 (M 63 0)) 63 0)) 54 2 ((am_up (am_up M 54 1 (M 63 0)) 54 120 ((am_up M 54 1 (M 63 0)) 63 0)) 63 1)) 63 2))
set_option maxRecDepth 100000 in
theorem rs_X9_land_53_12 {x : Int} {M' : am_M} {c13 : Int → am_M → am_Rs} (h13 : ∀ w2 M, c13 w2 M = some (x, M') → am_R none 193 bk_X9_land 13 (am_wr [56, 0, 1] [w2]) [] SH M (am_rv (am_rk 193) x) SH M') (M : am_M) (h : XB_X9_land_53_12 c13 M = some (x, M')) : am_R none 193 bk_X9_land 12 (am_wr [56, 0, 0] []) [] SH M (am_rv (am_rk 193) x) SH M' :=
  vRegion (sc := none) (sh := SH) (F := F_X9_land_53) (k := 193) (bs := bk_X9_land) (r := (x, M')) (C := fun t lv st M => if t = 13 then vCt [56, 0, 1] (un1 c13) lv st M else none) ok_X9_land fs_X9_land_53 (fun t lv st M h => by
    split at h
    · rename_i e; subst e; exact vCt_s (un1_s h13) h
    cases h) 18 12 (am_wr [56, 0, 0] []) [] M h
noncomputable def XB_X9_land_53_13 (c13 : Int → am_M → am_Rs) (c15 : am_M → am_Rs) (v2 : Int) (M : am_M) : am_Rs :=
  if wI v2 < 4 then
   if 0 ≤ wI ((121 * v2) + 0) ∧ wI ((121 * v2) + 0) < 605 then
   c13 (v2 + 1) (am_up M 54 (wI ((121 * v2) + 0)).toNat (-1))
   else none
  else c15 M
set_option maxRecDepth 100000 in
theorem rs_X9_land_53_13 {x : Int} {M' : am_M} {c13 : Int → am_M → am_Rs} {c15 : am_M → am_Rs} (h13 : ∀ w2 M, c13 w2 M = some (x, M') → am_R none 193 bk_X9_land 13 (am_wr [56, 0, 1] [w2]) [] SH M (am_rv (am_rk 193) x) SH M') (h15 : ∀ M, c15 M = some (x, M') → am_R none 193 bk_X9_land 15 (am_wr [56, 0, 0] []) [] SH M (am_rv (am_rk 193) x) SH M') (v2 : Int) (M : am_M) (h : XB_X9_land_53_13 c13 c15 v2 M = some (x, M')) : am_R none 193 bk_X9_land 13 (am_wr [56, 0, 1] [v2]) [] SH M (am_rv (am_rk 193) x) SH M' :=
  vRegion (sc := none) (sh := SH) (F := F_X9_land_53) (k := 193) (bs := bk_X9_land) (r := (x, M')) (C := fun t lv st M => if t = 13 then vCt [56, 0, 1] (un1 c13) lv st M else if t = 15 then vCt [56, 0, 0] (un0 c15) lv st M else none) ok_X9_land fs_X9_land_53 (fun t lv st M h => by
    split at h
    · rename_i e; subst e; exact vCt_s (un1_s h13) h
    split at h
    · rename_i e; subst e; exact vCt_s (un0_s h15) h
    cases h) 18 13 (am_wr [56, 0, 1] [v2]) [] M h
noncomputable def XB_X9_land_53_15 (M : am_M) : am_Rs :=
  some (M 53 1, M)
set_option maxRecDepth 100000 in
theorem rs_X9_land_53_15 {x : Int} {M' : am_M} (M : am_M) (h : XB_X9_land_53_15 M = some (x, M')) : am_R none 193 bk_X9_land 15 (am_wr [56, 0, 0] []) [] SH M (am_rv (am_rk 193) x) SH M' :=
  vRegion (sc := none) (sh := SH) (F := F_X9_land_53) (k := 193) (bs := bk_X9_land) (r := (x, M')) (C := fun t lv st M => none) ok_X9_land fs_X9_land_53 (fun t lv st M h => by
    cases h) 18 15 (am_wr [56, 0, 0] []) [] M h
noncomputable def XB_X9_land_53_e (c7 : Int → am_M → am_Rs) (v1 : Int) (M : am_M) : am_Rs :=
  (X_X9_isText v1 M).bind fun z1 =>
  if wI z1.1 = 0 then
   some ((-1), z1.2)
  else if 0 ≤ wI v1 ∧ wI v1 < 4 then
  if wI (z1.2 59 (wI v1).toNat) < 0 then
    (X_X9_find_53 1 z1.2).bind fun z2 =>
    some (z2.1, z2.2)
   else (X_X9_faultOf_53 v1 z1.2).bind fun z2 =>
   if wI z2.1 = (-9) then
    c7 0 (am_up z2.2 53 1 (z2.2 53 17))
   else some ((-4), z2.2)
  else none
set_option maxRecDepth 100000 in
theorem rs_X9_land_53_e {x : Int} {M' : am_M} {c7 : Int → am_M → am_Rs} (h7 : ∀ w2 M, c7 w2 M = some (x, M') → am_R none 193 bk_X9_land 7 (am_wr [56, 0, 1] [w2]) [] SH M (am_rv (am_rk 193) x) SH M') (v1 : Int) (M : am_M) (h : XB_X9_land_53_e c7 v1 M = some (x, M')) : am_R none 193 bk_X9_land 0 (am_ent 3 [.inr (.inr (some 53)), .inl v1]) [] SH M (am_rv (am_rk 193) x) SH M' :=
  vRegion (sc := none) (sh := SH) (F := F_X9_land_53) (k := 193) (bs := bk_X9_land) (r := (x, M')) (C := fun t lv st M => if t = 7 then vCt [56, 0, 1] (un1 c7) lv st M else none) ok_X9_land fs_X9_land_53 (fun t lv st M h => by
    split at h
    · rename_i e; subst e; exact vCt_s (un1_s h7) h
    cases h) 18 0 (am_ent 3 [.inr (.inr (some 53)), .inl v1]) [] M h
noncomputable def XL_X9_land_53_7 (k9 : am_M → am_Rs) : Nat → Int → am_M → am_Rs
  | 0, _, _ => none
  | n + 1, v2, M => XB_X9_land_53_7 (XL_X9_land_53_7 k9 n) k9 v2 M
theorem ls_X9_land_53_7 {x : Int} {M' : am_M} {k9 : am_M → am_Rs} (hk9 : ∀ M, k9 M = some (x, M') → am_R none 193 bk_X9_land 9 (am_wr [56, 0, 0] []) [] SH M (am_rv (am_rk 193) x) SH M') : ∀ (n : Nat) (v2 : Int) (M : am_M), XL_X9_land_53_7 k9 n v2 M = some (x, M') → am_R none 193 bk_X9_land 7 (am_wr [56, 0, 1] [v2]) [] SH M (am_rv (am_rk 193) x) SH M'
  | 0, v2, M, h => by cases h
  | n + 1, v2, M, h => rs_X9_land_53_7 (ls_X9_land_53_7 hk9 n) hk9 v2 M h
noncomputable def XL_X9_land_53_10 (k12 : am_M → am_Rs) : Nat → Int → am_M → am_Rs
  | 0, _, _ => none
  | n + 1, v2, M => XB_X9_land_53_10 (XL_X9_land_53_10 k12 n) k12 v2 M
theorem ls_X9_land_53_10 {x : Int} {M' : am_M} {k12 : am_M → am_Rs} (hk12 : ∀ M, k12 M = some (x, M') → am_R none 193 bk_X9_land 12 (am_wr [56, 0, 0] []) [] SH M (am_rv (am_rk 193) x) SH M') : ∀ (n : Nat) (v2 : Int) (M : am_M), XL_X9_land_53_10 k12 n v2 M = some (x, M') → am_R none 193 bk_X9_land 10 (am_wr [56, 0, 1] [v2]) [] SH M (am_rv (am_rk 193) x) SH M'
  | 0, v2, M, h => by cases h
  | n + 1, v2, M, h => rs_X9_land_53_10 (ls_X9_land_53_10 hk12 n) hk12 v2 M h
noncomputable def XL_X9_land_53_13 (k15 : am_M → am_Rs) : Nat → Int → am_M → am_Rs
  | 0, _, _ => none
  | n + 1, v2, M => XB_X9_land_53_13 (XL_X9_land_53_13 k15 n) k15 v2 M
theorem ls_X9_land_53_13 {x : Int} {M' : am_M} {k15 : am_M → am_Rs} (hk15 : ∀ M, k15 M = some (x, M') → am_R none 193 bk_X9_land 15 (am_wr [56, 0, 0] []) [] SH M (am_rv (am_rk 193) x) SH M') : ∀ (n : Nat) (v2 : Int) (M : am_M), XL_X9_land_53_13 k15 n v2 M = some (x, M') → am_R none 193 bk_X9_land 13 (am_wr [56, 0, 1] [v2]) [] SH M (am_rv (am_rk 193) x) SH M'
  | 0, v2, M, h => by cases h
  | n + 1, v2, M, h => rs_X9_land_53_13 (ls_X9_land_53_13 hk15 n) hk15 v2 M h
noncomputable def X_X9_land_53 (v1 : Int) (M : am_M) : am_Rs := XB_X9_land_53_e (XL_X9_land_53_7 (XB_X9_land_53_9 (XL_X9_land_53_10 (XB_X9_land_53_12 (XL_X9_land_53_13 (XB_X9_land_53_15) 1000)) 1000)) 1000) v1 M
theorem dc_X9_land_53 (v1 : Int) (M M' : am_M) (x : Int) (h : X_X9_land_53 v1 M = some (x, M')) : am_Calls 193 [.inr (.inr (some 53)), .inl v1] SH M (am_rv (am_rk 193) x) SH M' :=
  am_enter pn_X9_land ml_X9_land rfl (Nat.le_of_ble_eq_true rfl) ⟨Nat.le_refl _, Nat.le_refl _⟩ (rs_X9_land_53_e (ls_X9_land_53_7 (rs_X9_land_53_9 (ls_X9_land_53_10 (rs_X9_land_53_12 (ls_X9_land_53_13 (rs_X9_land_53_15) 1000)) 1000)) 1000) v1 M h)
end
