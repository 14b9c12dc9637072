noncomputable def XB_X9_copyLand_53_1 (c1 : Int → Int → Int → am_M → am_Rs) (c3 : am_M → am_Rs) (v1 v2 v3 : Int) (M : am_M) : am_Rs :=
  if wI v3 < 121 then
   if 0 ≤ wI (v1 + v3) ∧ wI (v1 + v3) < 605 then
   if 0 ≤ wI (v2 + v3) ∧ wI (v2 + v3) < 605 then
    c1 v1 v2 (v3 + 1) (am_up M 54 (wI (v2 + v3)).toNat (M 54 (wI (v1 + v3)).toNat))
    else none
   else none
  else c3 M
set_option maxRecDepth 100000 in
theorem rs_X9_copyLand_53_1 {x : Int} {M' : am_M} {c1 : Int → Int → Int → am_M → am_Rs} {c3 : am_M → am_Rs} (h1 : ∀ w1 w2 w3 M, c1 w1 w2 w3 M = some (x, M') → am_R none 209 bk_X9_copyLand 1 (am_wr [56, 1, 1, 1] [w1, w2, w3]) [] SH M (am_rv (am_rk 209) x) SH M') (h3 : ∀ M, c3 M = some (x, M') → am_R none 209 bk_X9_copyLand 3 (am_wr [0, 0, 0, 0] []) [] SH M (am_rv (am_rk 209) x) SH M') (v1 v2 v3 : Int) (M : am_M) (h : XB_X9_copyLand_53_1 c1 c3 v1 v2 v3 M = some (x, M')) : am_R none 209 bk_X9_copyLand 1 (am_wr [56, 1, 1, 1] [v1, v2, v3]) [] SH M (am_rv (am_rk 209) x) SH M' :=
  vRegion (sc := none) (sh := SH) (F := F_none) (k := 209) (bs := bk_X9_copyLand) (r := (x, M')) (C := fun t lv st M => if t = 1 then vCt [56, 1, 1, 1] (un3 c1) lv st M else if t = 3 then vCt [0, 0, 0, 0] (un0 c3) lv st M else none) ok_X9_copyLand fs_none (fun t lv st M h => by
    split at h
    · rename_i e; subst e; exact vCt_s (un3_s h1) h
    split at h
    · rename_i e; subst e; exact vCt_s (un0_s h3) h
    cases h) 6 1 (am_wr [56, 1, 1, 1] [v1, v2, v3]) [] M h
noncomputable def XB_X9_copyLand_53_3 (M : am_M) : am_Rs :=
  some (0, M)
set_option maxRecDepth 100000 in
theorem rs_X9_copyLand_53_3 {x : Int} {M' : am_M} (M : am_M) (h : XB_X9_copyLand_53_3 M = some (x, M')) : am_R none 209 bk_X9_copyLand 3 (am_wr [0, 0, 0, 0] []) [] SH M (am_rv (am_rk 209) x) SH M' :=
  vRegion (sc := none) (sh := SH) (F := F_none) (k := 209) (bs := bk_X9_copyLand) (r := (x, M')) (C := fun t lv st M => none) ok_X9_copyLand fs_none (fun t lv st M h => by
    cases h) 6 3 (am_wr [0, 0, 0, 0] []) [] M h
noncomputable def XB_X9_copyLand_53_e (c1 : Int → Int → Int → am_M → am_Rs) (v1 v2 : Int) (M : am_M) : am_Rs :=
  c1 v1 v2 0 M
set_option maxRecDepth 100000 in
theorem rs_X9_copyLand_53_e {x : Int} {M' : am_M} {c1 : Int → Int → Int → am_M → am_Rs} (h1 : ∀ w1 w2 w3 M, c1 w1 w2 w3 M = some (x, M') → am_R none 209 bk_X9_copyLand 1 (am_wr [56, 1, 1, 1] [w1, w2, w3]) [] SH M (am_rv (am_rk 209) x) SH M') (v1 v2 : Int) (M : am_M) (h : XB_X9_copyLand_53_e c1 v1 v2 M = some (x, M')) : am_R none 209 bk_X9_copyLand 0 (am_ent 4 [.inr (.inr (some 53)), .inl v1, .inl v2]) [] SH M (am_rv (am_rk 209) x) SH M' :=
  vRegion (sc := none) (sh := SH) (F := F_none) (k := 209) (bs := bk_X9_copyLand) (r := (x, M')) (C := fun t lv st M => if t = 1 then vCt [56, 1, 1, 1] (un3 c1) lv st M else none) ok_X9_copyLand fs_none (fun t lv st M h => by
    split at h
    · rename_i e; subst e; exact vCt_s (un3_s h1) h
    cases h) 6 0 (am_ent 4 [.inr (.inr (some 53)), .inl v1, .inl v2]) [] M h
noncomputable def XL_X9_copyLand_53_1 (k3 : am_M → am_Rs) : Nat → Int → Int → Int → am_M → am_Rs
  | 0, _, _, _, _ => none
  | n + 1, v1, v2, v3, M => XB_X9_copyLand_53_1 (XL_X9_copyLand_53_1 k3 n) k3 v1 v2 v3 M
theorem ls_X9_copyLand_53_1 {x : Int} {M' : am_M} {k3 : am_M → am_Rs} (hk3 : ∀ M, k3 M = some (x, M') → am_R none 209 bk_X9_copyLand 3 (am_wr [0, 0, 0, 0] []) [] SH M (am_rv (am_rk 209) x) SH M') : ∀ (n : Nat) (v1 v2 v3 : Int) (M : am_M), XL_X9_copyLand_53_1 k3 n v1 v2 v3 M = some (x, M') → am_R none 209 bk_X9_copyLand 1 (am_wr [56, 1, 1, 1] [v1, v2, v3]) [] SH M (am_rv (am_rk 209) x) SH M'
  | 0, v1, v2, v3, M, h => by cases h
  | n + 1, v1, v2, v3, M, h => rs_X9_copyLand_53_1 (ls_X9_copyLand_53_1 hk3 n) hk3 v1 v2 v3 M h
noncomputable def X_X9_copyLand_53 (v1 v2 : Int) (M : am_M) : am_Rs := XB_X9_copyLand_53_e (XL_X9_copyLand_53_1 (XB_X9_copyLand_53_3) 1000) v1 v2 M
theorem dc_X9_copyLand_53 (v1 v2 : Int) (M M' : am_M) (x : Int) (h : X_X9_copyLand_53 v1 v2 M = some (x, M')) : am_Calls 209 [.inr (.inr (some 53)), .inl v1, .inl v2] SH M (am_rv (am_rk 209) x) SH M' :=
  am_enter pn_X9_copyLand ml_X9_copyLand rfl (Nat.le_of_ble_eq_true rfl) ⟨Nat.le_refl _, Nat.le_refl _⟩ (rs_X9_copyLand_53_e (ls_X9_copyLand_53_1 (rs_X9_copyLand_53_3) 1000) v1 v2 M h)
noncomputable def F_X9_layAhead_53 : Nat → List am_V → am_M → am_Rs := fun k as M => if k = 200 then (match as with
  | [.inr (.inr (some 53)), .inl a1, .inl a2, .inl a3] => X_X9_goOn_53 a1 a2 a3 M
  | _ => none) else if k = 209 then (match as with
  | [.inr (.inr (some 53)), .inl a1, .inl a2] => X_X9_copyLand_53 a1 a2 M
  | _ => none) else none
theorem fs_X9_layAhead_53 : am_FS SH F_X9_layAhead_53 := by
  intro k as M x M' h
  unfold F_X9_layAhead_53 at h
  split at h
  · rename_i hk; subst hk
    split at h
    · exact dc_X9_goOn_53 _ _ _ _ _ _ h
    · cases h
  split at h
  · rename_i hk; subst hk
    split at h
    · exact dc_X9_copyLand_53 _ _ _ _ _ h
    · cases h
  cases h
noncomputable def XB_X9_layAhead_53_1 (c1 : Int → Int → am_M → am_Rs) (c3 : Int → am_M → am_Rs) (v1 v2 : Int) (M : am_M) : am_Rs :=
  if wI v2 < 40 then
   if 0 ≤ wI (484 + v2) ∧ wI (484 + v2) < 605 then
   c1 v1 (v2 + 1) (am_up M 54 (wI (484 + v2)).toNat 0)
   else none
  else c3 v1 M
set_option maxRecDepth 100000 in
theorem rs_X9_layAhead_53_1 {x : Int} {M' : am_M} {c1 : Int → Int → am_M → am_Rs} {c3 : Int → am_M → am_Rs} (h1 : ∀ w1 w2 M, c1 w1 w2 M = some (x, M') → am_R none 210 bk_X9_layAhead 1 (am_wr [56, 1, 1] [w1, w2]) [] SH M (am_rv (am_rk 210) x) SH M') (h3 : ∀ w1 M, c3 w1 M = some (x, M') → am_R none 210 bk_X9_layAhead 3 (am_wr [56, 1, 0] [w1]) [] SH M (am_rv (am_rk 210) x) SH M') (v1 v2 : Int) (M : am_M) (h : XB_X9_layAhead_53_1 c1 c3 v1 v2 M = some (x, M')) : am_R none 210 bk_X9_layAhead 1 (am_wr [56, 1, 1] [v1, v2]) [] SH M (am_rv (am_rk 210) x) SH M' :=
  vRegion (sc := none) (sh := SH) (F := F_X9_layAhead_53) (k := 210) (bs := bk_X9_layAhead) (r := (x, M')) (C := fun t lv st M => if t = 1 then vCt [56, 1, 1] (un2 c1) lv st M else if t = 3 then vCt [56, 1, 0] (un1 c3) lv st M else none) ok_X9_layAhead fs_X9_layAhead_53 (fun t lv st M h => by
    split at h
    · rename_i e; subst e; exact vCt_s (un2_s h1) h
    split at h
    · rename_i e; subst e; exact vCt_s (un1_s h3) h
    cases h) 9 1 (am_wr [56, 1, 1] [v1, v2]) [] M h
noncomputable def XB_X9_layAhead_53_3 (c4 : Int → Int → am_M → am_Rs) (v1 : Int) (M : am_M) : am_Rs :=
  c4 v1 0 (am_up M 54 485 (M 54 120))
set_option maxRecDepth 100000 in
theorem rs_X9_layAhead_53_3 {x : Int} {M' : am_M} {c4 : Int → Int → am_M → am_Rs} (h4 : ∀ w1 w2 M, c4 w1 w2 M = some (x, M') → am_R none 210 bk_X9_layAhead 4 (am_wr [56, 1, 1] [w1, w2]) [] SH M (am_rv (am_rk 210) x) SH M') (v1 : Int) (M : am_M) (h : XB_X9_layAhead_53_3 c4 v1 M = some (x, M')) : am_R none 210 bk_X9_layAhead 3 (am_wr [56, 1, 0] [v1]) [] SH M (am_rv (am_rk 210) x) SH M' :=
  vRegion (sc := none) (sh := SH) (F := F_X9_layAhead_53) (k := 210) (bs := bk_X9_layAhead) (r := (x, M')) (C := fun t lv st M => if t = 4 then vCt [56, 1, 1] (un2 c4) lv st M else none) ok_X9_layAhead fs_X9_layAhead_53 (fun t lv st M h => by
    split at h
    · rename_i e; subst e; exact vCt_s (un2_s h4) h
    cases h) 9 3 (am_wr [56, 1, 0] [v1]) [] M h
noncomputable def XB_X9_layAhead_53_4 (c4 : Int → Int → am_M → am_Rs) (c6 : am_M → am_Rs) (v1 v2 : Int) (M : am_M) : am_Rs :=
  if wI v2 < wI v1 then
   if 0 ≤ wI (80 + v2) ∧ wI (80 + v2) < 605 then
   if 0 ≤ wI (80 + v2) ∧ wI (80 + v2) < 605 then
    if 0 ≤ wI (40 + v2) ∧ wI (40 + v2) < 605 then
     if 0 ≤ wI (40 + v2) ∧ wI (40 + v2) < 605 then
      (X_X9_goOn_53 484 ((wI ((am_up (am_up M 54 486 ((wI (M 54 (wI (80 + v2)).toNat)).tdiv 10)) 54 487 ((wI ((am_up M 54 486 ((wI (M 54 (wI (80 + v2)).toNat)).tdiv 10)) 54 (wI (80 + v2)).toNat)).tmod 10)) 54 (wI (40 + v2)).toNat)).tdiv 4) ((wI ((am_up (am_up M 54 486 ((wI (M 54 (wI (80 + v2)).toNat)).tdiv 10)) 54 487 ((wI ((am_up M 54 486 ((wI (M 54 (wI (80 + v2)).toNat)).tdiv 10)) 54 (wI (80 + v2)).toNat)).tmod 10)) 54 (wI (40 + v2)).toNat)).tmod 4) (am_up (am_up M 54 486 ((wI (M 54 (wI (80 + v2)).toNat)).tdiv 10)) 54 487 ((wI ((am_up M 54 486 ((wI (M 54 (wI (80 + v2)).toNat)).tdiv 10)) 54 (wI (80 + v2)).toNat)).tmod 10))).bind fun z1 =>
       c4 v1 (v2 + 1) z1.2
      else none
     else none
    else none
   else none
  else c6 M
set_option maxRecDepth 100000 in
theorem rs_X9_layAhead_53_4 {x : Int} {M' : am_M} {c4 : Int → Int → am_M → am_Rs} {c6 : am_M → am_Rs} (h4 : ∀ w1 w2 M, c4 w1 w2 M = some (x, M') → am_R none 210 bk_X9_layAhead 4 (am_wr [56, 1, 1] [w1, w2]) [] SH M (am_rv (am_rk 210) x) SH M') (h6 : ∀ M, c6 M = some (x, M') → am_R none 210 bk_X9_layAhead 6 (am_wr [56, 0, 0] []) [] SH M (am_rv (am_rk 210) x) SH M') (v1 v2 : Int) (M : am_M) (h : XB_X9_layAhead_53_4 c4 c6 v1 v2 M = some (x, M')) : am_R none 210 bk_X9_layAhead 4 (am_wr [56, 1, 1] [v1, v2]) [] SH M (am_rv (am_rk 210) x) SH M' :=
  vRegion (sc := none) (sh := SH) (F := F_X9_layAhead_53) (k := 210) (bs := bk_X9_layAhead) (r := (x, M')) (C := fun t lv st M => if t = 4 then vCt [56, 1, 1] (un2 c4) lv st M else if t = 6 then vCt [56, 0, 0] (un0 c6) lv st M else none) ok_X9_layAhead fs_X9_layAhead_53 (fun t lv st M h => by
    split at h
    · rename_i e; subst e; exact vCt_s (un2_s h4) h
    split at h
    · rename_i e; subst e; exact vCt_s (un0_s h6) h
    cases h) 9 4 (am_wr [56, 1, 1] [v1, v2]) [] M h
noncomputable def XB_X9_layAhead_53_6 (M : am_M) : am_Rs :=
  some (0, (am_up (am_up M 54 486 (M 54 2)) 54 487 ((am_up M 54 486 (M 54 2)) 54 3)))
set_option maxRecDepth 100000 in
theorem rs_X9_layAhead_53_6 {x : Int} {M' : am_M} (M : am_M) (h : XB_X9_layAhead_53_6 M = some (x, M')) : am_R none 210 bk_X9_layAhead 6 (am_wr [56, 0, 0] []) [] SH M (am_rv (am_rk 210) x) SH M' :=
  vRegion (sc := none) (sh := SH) (F := F_X9_layAhead_53) (k := 210) (bs := bk_X9_layAhead) (r := (x, M')) (C := fun t lv st M => none) ok_X9_layAhead fs_X9_layAhead_53 (fun t lv st M h => by
    cases h) 9 6 (am_wr [56, 0, 0] []) [] M h
noncomputable def XB_X9_layAhead_53_e (c1 : Int → Int → am_M → am_Rs) (v1 : Int) (M : am_M) : am_Rs :=
  (X_X9_copyLand_53 0 484 M).bind fun z1 =>
  c1 v1 0 z1.2
set_option maxRecDepth 100000 in
theorem rs_X9_layAhead_53_e {x : Int} {M' : am_M} {c1 : Int → Int → am_M → am_Rs} (h1 : ∀ w1 w2 M, c1 w1 w2 M = some (x, M') → am_R none 210 bk_X9_layAhead 1 (am_wr [56, 1, 1] [w1, w2]) [] SH M (am_rv (am_rk 210) x) SH M') (v1 : Int) (M : am_M) (h : XB_X9_layAhead_53_e c1 v1 M = some (x, M')) : am_R none 210 bk_X9_layAhead 0 (am_ent 3 [.inr (.inr (some 53)), .inl v1]) [] SH M (am_rv (am_rk 210) x) SH M' :=
  vRegion (sc := none) (sh := SH) (F := F_X9_layAhead_53) (k := 210) (bs := bk_X9_layAhead) (r := (x, M')) (C := fun t lv st M => if t = 1 then vCt [56, 1, 1] (un2 c1) lv st M else none) ok_X9_layAhead fs_X9_layAhead_53 (fun t lv st M h => by
    split at h
    · rename_i e; subst e; exact vCt_s (un2_s h1) h
    cases h) 9 0 (am_ent 3 [.inr (.inr (some 53)), .inl v1]) [] M h
noncomputable def XL_X9_layAhead_53_1 (k3 : Int → am_M → am_Rs) : Nat → Int → Int → am_M → am_Rs
  | 0, _, _, _ => none
  | n + 1, v1, v2, M => XB_X9_layAhead_53_1 (XL_X9_layAhead_53_1 k3 n) k3 v1 v2 M
theorem ls_X9_layAhead_53_1 {x : Int} {M' : am_M} {k3 : Int → am_M → am_Rs} (hk3 : ∀ w1 M, k3 w1 M = some (x, M') → am_R none 210 bk_X9_layAhead 3 (am_wr [56, 1, 0] [w1]) [] SH M (am_rv (am_rk 210) x) SH M') : ∀ (n : Nat) (v1 v2 : Int) (M : am_M), XL_X9_layAhead_53_1 k3 n v1 v2 M = some (x, M') → am_R none 210 bk_X9_layAhead 1 (am_wr [56, 1, 1] [v1, v2]) [] SH M (am_rv (am_rk 210) x) SH M'
  | 0, v1, v2, M, h => by cases h
  | n + 1, v1, v2, M, h => rs_X9_layAhead_53_1 (ls_X9_layAhead_53_1 hk3 n) hk3 v1 v2 M h
noncomputable def XL_X9_layAhead_53_4 (k6 : am_M → am_Rs) : Nat → Int → Int → am_M → am_Rs
  | 0, _, _, _ => none
  | n + 1, v1, v2, M => XB_X9_layAhead_53_4 (XL_X9_layAhead_53_4 k6 n) k6 v1 v2 M
theorem ls_X9_layAhead_53_4 {x : Int} {M' : am_M} {k6 : am_M → am_Rs} (hk6 : ∀ M, k6 M = some (x, M') → am_R none 210 bk_X9_layAhead 6 (am_wr [56, 0, 0] []) [] SH M (am_rv (am_rk 210) x) SH M') : ∀ (n : Nat) (v1 v2 : Int) (M : am_M), XL_X9_layAhead_53_4 k6 n v1 v2 M = some (x, M') → am_R none 210 bk_X9_layAhead 4 (am_wr [56, 1, 1] [v1, v2]) [] SH M (am_rv (am_rk 210) x) SH M'
  | 0, v1, v2, M, h => by cases h
  | n + 1, v1, v2, M, h => rs_X9_layAhead_53_4 (ls_X9_layAhead_53_4 hk6 n) hk6 v1 v2 M h
noncomputable def X_X9_layAhead_53 (v1 : Int) (M : am_M) : am_Rs := XB_X9_layAhead_53_e (XL_X9_layAhead_53_1 (XB_X9_layAhead_53_3 (XL_X9_layAhead_53_4 (XB_X9_layAhead_53_6) 1000)) 1000) v1 M
theorem dc_X9_layAhead_53 (v1 : Int) (M M' : am_M) (x : Int) (h : X_X9_layAhead_53 v1 M = some (x, M')) : am_Calls 210 [.inr (.inr (some 53)), .inl v1] SH M (am_rv (am_rk 210) x) SH M' :=
  am_enter pn_X9_layAhead ml_X9_layAhead rfl (Nat.le_of_ble_eq_true rfl) ⟨Nat.le_refl _, Nat.le_refl _⟩ (rs_X9_layAhead_53_e (ls_X9_layAhead_53_1 (rs_X9_layAhead_53_3 (ls_X9_layAhead_53_4 (rs_X9_layAhead_53_6) 1000)) 1000) v1 M h)
noncomputable def F_X9_undo_53 : Nat → List am_V → am_M → am_Rs := fun k as M => if k = 168 then (match as with
  | [.inr (.inl a0), .inr (.inl a2), .inr (.inl a4)] => X_X9_in a0 a2 a4 M
  | _ => none) else if k = 209 then (match as with
  | [.inr (.inr (some 53)), .inl a1, .inl a2] => X_X9_copyLand_53 a1 a2 M
  | _ => none) else if k = 210 then (match as with
  | [.inr (.inr (some 53)), .inl a1] => X_X9_layAhead_53 a1 M
  | _ => none) else none
theorem fs_X9_undo_53 : am_FS SH F_X9_undo_53 := by
  intro k as M x M' h
  unfold F_X9_undo_53 at h
  split at h
  · rename_i hk; subst hk
    split at h
    · exact dc_X9_in _ _ _ _ _ _ h
    · cases h
  split at h
  · rename_i hk; subst hk
    split at h
    · exact dc_X9_copyLand_53 _ _ _ _ _ h
    · cases h
  split at h
  · rename_i hk; subst hk
    split at h
    · exact dc_X9_layAhead_53 _ _ _ _ h
    · cases h
  cases h
noncomputable def X_X9_undo_53 (v1 : Int) (M : am_M) : am_Rs :=
  (X_X9_in (wI v1) 0 (wI (M 54 0)) M).bind fun z1 =>
  if wI z1.1 = 0 then
   some ((-1), z1.2)
  else (X_X9_layAhead_53 v1 z1.2).bind fun z2 =>
  (X_X9_copyLand_53 484 0 z2.2).bind fun z3 =>
  some ((z1.2 54 0) - v1, z3.2)
set_option maxRecDepth 100000 in
theorem dc_X9_undo_53 (v1 : Int) (M M' : am_M) (x : Int) (h : X_X9_undo_53 v1 M = some (x, M')) : am_Calls 211 [.inr (.inr (some 53)), .inl v1] SH M (am_rv (am_rk 211) x) SH M' :=
  vCall (F := F_X9_undo_53) (C := fun _ _ _ _ => none) (fu := 5) ok_X9_undo pn_X9_undo ml_X9_undo rfl (Nat.le_of_ble_eq_true rfl) fs_X9_undo_53 (fun _ _ _ _ h => by cases h) h
noncomputable def X_X9_border_53 (M : am_M) : am_Rs :=
  if wI (M 53 1) = 0 then
   some ((-4), M)
  else some ((am_up M 53 8 (M 54 0)) 54 1, (am_up M 53 8 (M 54 0)))
set_option maxRecDepth 100000 in
theorem dc_X9_border_53 (M M' : am_M) (x : Int) (h : X_X9_border_53 M = some (x, M')) : am_Calls 212 [.inr (.inr (some 53))] SH M (am_rv (am_rk 212) x) SH M' :=
  vCall (F := F_none) (C := fun _ _ _ _ => none) (fu := 5) ok_X9_border pn_X9_border ml_X9_border rfl (Nat.le_of_ble_eq_true rfl) fs_none (fun _ _ _ _ h => by cases h) h
noncomputable def F_X9_lain_53 : Nat → List am_V → am_M → am_Rs := fun k as M => if k = 168 then (match as with
  | [.inr (.inl a0), .inr (.inl a2), .inr (.inl a4)] => X_X9_in a0 a2 a4 M
  | _ => none) else if k = 210 then (match as with
  | [.inr (.inr (some 53)), .inl a1] => X_X9_layAhead_53 a1 M
  | _ => none) else none
theorem fs_X9_lain_53 : am_FS SH F_X9_lain_53 := by
  intro k as M x M' h
  unfold F_X9_lain_53 at h
  split at h
  · rename_i hk; subst hk
    split at h
    · exact dc_X9_in _ _ _ _ _ _ h
    · cases h
  split at h
  · rename_i hk; subst hk
    split at h
    · exact dc_X9_layAhead_53 _ _ _ _ h
    · cases h
  cases h
noncomputable def X_X9_lain_53 (v1 : Int) (M : am_M) : am_Rs :=
  (X_X9_in (wI v1) 0 (wI (M 54 0)) M).bind fun z1 =>
  if wI z1.1 = 0 then
   some ((-1), z1.2)
  else (X_X9_layAhead_53 v1 z1.2).bind fun z2 =>
  some (z2.2 54 485, z2.2)
set_option maxRecDepth 100000 in
theorem dc_X9_lain_53 (v1 : Int) (M M' : am_M) (x : Int) (h : X_X9_lain_53 v1 M = some (x, M')) : am_Calls 213 [.inr (.inr (some 53)), .inl v1] SH M (am_rv (am_rk 213) x) SH M' :=
  vCall (F := F_X9_lain_53) (C := fun _ _ _ _ => none) (fu := 5) ok_X9_lain pn_X9_lain ml_X9_lain rfl (Nat.le_of_ble_eq_true rfl) fs_X9_lain_53 (fun _ _ _ _ h => by cases h) h
noncomputable def F_X9_got_53 : Nat → List am_V → am_M → am_Rs := fun k as M => if k = 168 then (match as with
  | [.inr (.inl a0), .inr (.inl a2), .inr (.inl a4)] => X_X9_in a0 a2 a4 M
  | _ => none) else none
theorem fs_X9_got_53 : am_FS SH F_X9_got_53 := by
  intro k as M x M' h
  unfold F_X9_got_53 at h
  split at h
  · rename_i hk; subst hk
    split at h
    · exact dc_X9_in _ _ _ _ _ _ h
    · cases h
  cases h
noncomputable def XB_X9_got_53_3 (c3 : Int → Int → Int → am_M → am_Rs) (c5 : Int → am_M → am_Rs) (v1 v2 v3 : Int) (M : am_M) : am_Rs :=
  if wI v3 < wI (M 53 1) then
   if 0 ≤ wI ((4 + (3 * v3)) + v1) ∧ wI ((4 + (3 * v3)) + v1) < 605 then
   c3 v1 (v2 + (M 54 (wI ((4 + (3 * v3)) + v1)).toNat)) (v3 + 1) M
   else none
  else c5 v2 M
set_option maxRecDepth 100000 in
theorem rs_X9_got_53_3 {x : Int} {M' : am_M} {c3 : Int → Int → Int → am_M → am_Rs} {c5 : Int → am_M → am_Rs} (h3 : ∀ w1 w2 w3 M, c3 w1 w2 w3 M = some (x, M') → am_R none 214 bk_X9_got 3 (am_wr [56, 1, 1, 1] [w1, w2, w3]) [] SH M (am_rv (am_rk 214) x) SH M') (h5 : ∀ w2 M, c5 w2 M = some (x, M') → am_R none 214 bk_X9_got 5 (am_wr [0, 0, 1, 0] [w2]) [] SH M (am_rv (am_rk 214) x) SH M') (v1 v2 v3 : Int) (M : am_M) (h : XB_X9_got_53_3 c3 c5 v1 v2 v3 M = some (x, M')) : am_R none 214 bk_X9_got 3 (am_wr [56, 1, 1, 1] [v1, v2, v3]) [] SH M (am_rv (am_rk 214) x) SH M' :=
  vRegion (sc := none) (sh := SH) (F := F_X9_got_53) (k := 214) (bs := bk_X9_got) (r := (x, M')) (C := fun t lv st M => if t = 3 then vCt [56, 1, 1, 1] (un3 c3) lv st M else if t = 5 then vCt [0, 0, 1, 0] (un1 c5) lv st M else none) ok_X9_got fs_X9_got_53 (fun t lv st M h => by
    split at h
    · rename_i e; subst e; exact vCt_s (un3_s h3) h
    split at h
    · rename_i e; subst e; exact vCt_s (un1_s h5) h
    cases h) 8 3 (am_wr [56, 1, 1, 1] [v1, v2, v3]) [] M h
noncomputable def XB_X9_got_53_5 (v2 : Int) (M : am_M) : am_Rs :=
  some (v2, M)
set_option maxRecDepth 100000 in
theorem rs_X9_got_53_5 {x : Int} {M' : am_M} (v2 : Int) (M : am_M) (h : XB_X9_got_53_5 v2 M = some (x, M')) : am_R none 214 bk_X9_got 5 (am_wr [0, 0, 1, 0] [v2]) [] SH M (am_rv (am_rk 214) x) SH M' :=
  vRegion (sc := none) (sh := SH) (F := F_X9_got_53) (k := 214) (bs := bk_X9_got) (r := (x, M')) (C := fun t lv st M => none) ok_X9_got fs_X9_got_53 (fun t lv st M h => by
    cases h) 8 5 (am_wr [0, 0, 1, 0] [v2]) [] M h
noncomputable def XB_X9_got_53_e (c3 : Int → Int → Int → am_M → am_Rs) (v1 : Int) (M : am_M) : am_Rs :=
  (X_X9_in (wI v1) 0 1 M).bind fun z1 =>
  if wI z1.1 = 0 then
   some ((-1), z1.2)
  else c3 v1 0 0 z1.2
set_option maxRecDepth 100000 in
theorem rs_X9_got_53_e {x : Int} {M' : am_M} {c3 : Int → Int → Int → am_M → am_Rs} (h3 : ∀ w1 w2 w3 M, c3 w1 w2 w3 M = some (x, M') → am_R none 214 bk_X9_got 3 (am_wr [56, 1, 1, 1] [w1, w2, w3]) [] SH M (am_rv (am_rk 214) x) SH M') (v1 : Int) (M : am_M) (h : XB_X9_got_53_e c3 v1 M = some (x, M')) : am_R none 214 bk_X9_got 0 (am_ent 4 [.inr (.inr (some 53)), .inl v1]) [] SH M (am_rv (am_rk 214) x) SH M' :=
  vRegion (sc := none) (sh := SH) (F := F_X9_got_53) (k := 214) (bs := bk_X9_got) (r := (x, M')) (C := fun t lv st M => if t = 3 then vCt [56, 1, 1, 1] (un3 c3) lv st M else none) ok_X9_got fs_X9_got_53 (fun t lv st M h => by
    split at h
    · rename_i e; subst e; exact vCt_s (un3_s h3) h
    cases h) 8 0 (am_ent 4 [.inr (.inr (some 53)), .inl v1]) [] M h
noncomputable def XL_X9_got_53_3 (k5 : Int → am_M → am_Rs) : Nat → Int → Int → Int → am_M → am_Rs
  | 0, _, _, _, _ => none
  | n + 1, v1, v2, v3, M => XB_X9_got_53_3 (XL_X9_got_53_3 k5 n) k5 v1 v2 v3 M
theorem ls_X9_got_53_3 {x : Int} {M' : am_M} {k5 : Int → am_M → am_Rs} (hk5 : ∀ w2 M, k5 w2 M = some (x, M') → am_R none 214 bk_X9_got 5 (am_wr [0, 0, 1, 0] [w2]) [] SH M (am_rv (am_rk 214) x) SH M') : ∀ (n : Nat) (v1 v2 v3 : Int) (M : am_M), XL_X9_got_53_3 k5 n v1 v2 v3 M = some (x, M') → am_R none 214 bk_X9_got 3 (am_wr [56, 1, 1, 1] [v1, v2, v3]) [] SH M (am_rv (am_rk 214) x) SH M'
  | 0, v1, v2, v3, M, h => by cases h
  | n + 1, v1, v2, v3, M, h => rs_X9_got_53_3 (ls_X9_got_53_3 hk5 n) hk5 v1 v2 v3 M h
noncomputable def X_X9_got_53 (v1 : Int) (M : am_M) : am_Rs := XB_X9_got_53_e (XL_X9_got_53_3 (XB_X9_got_53_5) 1000) v1 M
theorem dc_X9_got_53 (v1 : Int) (M M' : am_M) (x : Int) (h : X_X9_got_53 v1 M = some (x, M')) : am_Calls 214 [.inr (.inr (some 53)), .inl v1] SH M (am_rv (am_rk 214) x) SH M' :=
  am_enter pn_X9_got ml_X9_got rfl (Nat.le_of_ble_eq_true rfl) ⟨Nat.le_refl _, Nat.le_refl _⟩ (rs_X9_got_53_e (ls_X9_got_53_3 (rs_X9_got_53_5) 1000) v1 M h)
noncomputable def F_X9_keep_53 : Nat → List am_V → am_M → am_Rs := fun k as M => if k = 168 then (match as with
  | [.inr (.inl a0), .inr (.inl a2), .inr (.inl a4)] => X_X9_in a0 a2 a4 M
  | _ => none) else if k = 209 then (match as with
  | [.inr (.inr (some 53)), .inl a1, .inl a2] => X_X9_copyLand_53 a1 a2 M
  | _ => none) else none
theorem fs_X9_keep_53 : am_FS SH F_X9_keep_53 := by
  intro k as M x M' h
  unfold F_X9_keep_53 at h
  split at h
  · rename_i hk; subst hk
    split at h
    · exact dc_X9_in _ _ _ _ _ _ h
    · cases h
  split at h
  · rename_i hk; subst hk
    split at h
    · exact dc_X9_copyLand_53 _ _ _ _ _ h
    · cases h
  cases h
noncomputable def X_X9_keep_53 (v1 : Int) (M : am_M) : am_Rs :=
  (X_X9_in (wI v1) 0 2 M).bind fun z1 =>
  if wI z1.1 = 0 then
   some ((-1), z1.2)
  else if wI (z1.2 53 1) = 0 then
   some ((-4), z1.2)
  else (X_X9_copyLand_53 0 (121 * (1 + v1)) z1.2).bind fun z2 =>
  some (z2.2 54 0, z2.2)
set_option maxRecDepth 100000 in
theorem dc_X9_keep_53 (v1 : Int) (M M' : am_M) (x : Int) (h : X_X9_keep_53 v1 M = some (x, M')) : am_Calls 215 [.inr (.inr (some 53)), .inl v1] SH M (am_rv (am_rk 215) x) SH M' :=
  vCall (F := F_X9_keep_53) (C := fun _ _ _ _ => none) (fu := 7) ok_X9_keep pn_X9_keep ml_X9_keep rfl (Nat.le_of_ble_eq_true rfl) fs_X9_keep_53 (fun _ _ _ _ h => by cases h) h
noncomputable def F_X9_on_53 : Nat → List am_V → am_M → am_Rs := fun k as M => if k = 168 then (match as with
  | [.inr (.inl a0), .inr (.inl a2), .inr (.inl a4)] => X_X9_in a0 a2 a4 M
  | _ => none) else if k = 170 then (match as with
  | [.inr (.inr (some 53)), .inl a1] => X_X9_find_53 a1 M
  | _ => none) else if k = 209 then (match as with
  | [.inr (.inr (some 53)), .inl a1, .inl a2] => X_X9_copyLand_53 a1 a2 M
  | _ => none) else none
theorem fs_X9_on_53 : am_FS SH F_X9_on_53 := by
  intro k as M x M' h
  unfold F_X9_on_53 at h
  split at h
  · rename_i hk; subst hk
    split at h
    · exact dc_X9_in _ _ _ _ _ _ h
    · cases h
  split at h
  · rename_i hk; subst hk
    split at h
    · exact dc_X9_find_53 _ _ _ _ h
    · cases h
  split at h
  · rename_i hk; subst hk
    split at h
    · exact dc_X9_copyLand_53 _ _ _ _ _ h
    · cases h
  cases h
noncomputable def X_X9_on_53 (v1 : Int) (M : am_M) : am_Rs :=
  (X_X9_in (wI v1) 0 2 M).bind fun z1 =>
  if wI z1.1 = 0 then
   some ((-1), z1.2)
  else if 0 ≤ wI ((121 * (1 + v1)) + 0) ∧ wI ((121 * (1 + v1)) + 0) < 605 then
  if wI (z1.2 54 (wI ((121 * (1 + v1)) + 0)).toNat) < 0 then
    (X_X9_find_53 1 z1.2).bind fun z2 =>
    some (z2.1, z2.2)
   else (X_X9_copyLand_53 (121 * (1 + v1)) 0 z1.2).bind fun z2 =>
   some (z2.2 54 0, z2.2)
  else none
set_option maxRecDepth 100000 in
theorem dc_X9_on_53 (v1 : Int) (M M' : am_M) (x : Int) (h : X_X9_on_53 v1 M = some (x, M')) : am_Calls 216 [.inr (.inr (some 53)), .inl v1] SH M (am_rv (am_rk 216) x) SH M' :=
  vCall (F := F_X9_on_53) (C := fun _ _ _ _ => none) (fu := 7) ok_X9_on pn_X9_on ml_X9_on rfl (Nat.le_of_ble_eq_true rfl) fs_X9_on_53 (fun _ _ _ _ h => by cases h) h
noncomputable def F_X9_rudeness_53 : Nat → List am_V → am_M → am_Rs := fun k as M => if k = 196 then (match as with
  | [.inr (.inr (some 53)), .inl a1, .inl a2, .inl a3, .inl a4] => X_X9_behind_53 a1 a2 a3 a4 M
  | _ => none) else none
theorem fs_X9_rudeness_53 : am_FS SH F_X9_rudeness_53 := by
  intro k as M x M' h
  unfold F_X9_rudeness_53 at h
  split at h
  · rename_i hk; subst hk
    split at h
    · exact dc_X9_behind_53 _ _ _ _ _ _ _ h
    · cases h
  cases h
noncomputable def XB_X9_rudeness_53_3 (c3 : Int → Int → Int → Int → am_M → am_Rs) (c13 : am_M → am_Rs) (v1 v2 v3 v4 : Int) (M : am_M) : am_Rs :=
  if wI v4 < 3 then
   if wI v3 < 0 then
    if wI v3 < 0 then
     (X_X9_behind_53 v1 v2 v4 0 M).bind fun z1 =>
     if wI z1.1 = wI (v1 + v3) then
      some (v4, z1.2)
     else c3 v1 v2 v3 (v4 + 1) z1.2
    else (X_X9_behind_53 v1 v2 v4 v4 M).bind fun z1 =>
    if wI z1.1 = wI (v1 + v3) then
     some (v4, z1.2)
    else c3 v1 v2 v3 (v4 + 1) z1.2
   else if wI v3 < 0 then
    (X_X9_behind_53 v1 v2 0 0 M).bind fun z1 =>
    if wI z1.1 = wI (v1 + v3) then
     some (v4, z1.2)
    else c3 v1 v2 v3 (v4 + 1) z1.2
   else (X_X9_behind_53 v1 v2 0 v4 M).bind fun z1 =>
   if wI z1.1 = wI (v1 + v3) then
    some (v4, z1.2)
   else c3 v1 v2 v3 (v4 + 1) z1.2
  else c13 M
set_option maxRecDepth 100000 in
theorem rs_X9_rudeness_53_3 {x : Int} {M' : am_M} {c3 : Int → Int → Int → Int → am_M → am_Rs} {c13 : am_M → am_Rs} (h3 : ∀ w1 w2 w3 w4 M, c3 w1 w2 w3 w4 M = some (x, M') → am_R none 218 bk_X9_rudeness 3 (am_wr [56, 1, 1, 1, 1] [w1, w2, w3, w4]) [] SH M (am_rv (am_rk 218) x) SH M') (h13 : ∀ M, c13 M = some (x, M') → am_R none 218 bk_X9_rudeness 13 (am_wr [0, 0, 0, 0, 0] []) [] SH M (am_rv (am_rk 218) x) SH M') (v1 v2 v3 v4 : Int) (M : am_M) (h : XB_X9_rudeness_53_3 c3 c13 v1 v2 v3 v4 M = some (x, M')) : am_R none 218 bk_X9_rudeness 3 (am_wr [56, 1, 1, 1, 1] [v1, v2, v3, v4]) [] SH M (am_rv (am_rk 218) x) SH M' :=
  vRegion (sc := none) (sh := SH) (F := F_X9_rudeness_53) (k := 218) (bs := bk_X9_rudeness) (r := (x, M')) (C := fun t lv st M => if t = 3 then vCt [56, 1, 1, 1, 1] (un4 c3) lv st M else if t = 13 then vCt [0, 0, 0, 0, 0] (un0 c13) lv st M else none) ok_X9_rudeness fs_X9_rudeness_53 (fun t lv st M h => by
    split at h
    · rename_i e; subst e; exact vCt_s (un4_s h3) h
    split at h
    · rename_i e; subst e; exact vCt_s (un0_s h13) h
    cases h) 16 3 (am_wr [56, 1, 1, 1, 1] [v1, v2, v3, v4]) [] M h
noncomputable def XB_X9_rudeness_53_13 (M : am_M) : am_Rs :=
  some ((-9), M)
set_option maxRecDepth 100000 in
theorem rs_X9_rudeness_53_13 {x : Int} {M' : am_M} (M : am_M) (h : XB_X9_rudeness_53_13 M = some (x, M')) : am_R none 218 bk_X9_rudeness 13 (am_wr [0, 0, 0, 0, 0] []) [] SH M (am_rv (am_rk 218) x) SH M' :=
  vRegion (sc := none) (sh := SH) (F := F_X9_rudeness_53) (k := 218) (bs := bk_X9_rudeness) (r := (x, M')) (C := fun t lv st M => none) ok_X9_rudeness fs_X9_rudeness_53 (fun t lv st M h => by
    cases h) 16 13 (am_wr [0, 0, 0, 0, 0] []) [] M h
noncomputable def XB_X9_rudeness_53_e (c3 : Int → Int → Int → Int → am_M → am_Rs) (v1 v2 v3 : Int) (M : am_M) : am_Rs :=
  if wI v3 = 0 then
   some (0, M)
  else c3 v1 v2 v3 1 M
set_option maxRecDepth 100000 in
theorem rs_X9_rudeness_53_e {x : Int} {M' : am_M} {c3 : Int → Int → Int → Int → am_M → am_Rs} (h3 : ∀ w1 w2 w3 w4 M, c3 w1 w2 w3 w4 M = some (x, M') → am_R none 218 bk_X9_rudeness 3 (am_wr [56, 1, 1, 1, 1] [w1, w2, w3, w4]) [] SH M (am_rv (am_rk 218) x) SH M') (v1 v2 v3 : Int) (M : am_M) (h : XB_X9_rudeness_53_e c3 v1 v2 v3 M = some (x, M')) : am_R none 218 bk_X9_rudeness 0 (am_ent 5 [.inr (.inr (some 53)), .inl v1, .inl v2, .inl v3]) [] SH M (am_rv (am_rk 218) x) SH M' :=
  vRegion (sc := none) (sh := SH) (F := F_X9_rudeness_53) (k := 218) (bs := bk_X9_rudeness) (r := (x, M')) (C := fun t lv st M => if t = 3 then vCt [56, 1, 1, 1, 1] (un4 c3) lv st M else none) ok_X9_rudeness fs_X9_rudeness_53 (fun t lv st M h => by
    split at h
    · rename_i e; subst e; exact vCt_s (un4_s h3) h
    cases h) 16 0 (am_ent 5 [.inr (.inr (some 53)), .inl v1, .inl v2, .inl v3]) [] M h
noncomputable def XL_X9_rudeness_53_3 (k13 : am_M → am_Rs) : Nat → Int → Int → Int → Int → am_M → am_Rs
  | 0, _, _, _, _, _ => none
  | n + 1, v1, v2, v3, v4, M => XB_X9_rudeness_53_3 (XL_X9_rudeness_53_3 k13 n) k13 v1 v2 v3 v4 M
theorem ls_X9_rudeness_53_3 {x : Int} {M' : am_M} {k13 : am_M → am_Rs} (hk13 : ∀ M, k13 M = some (x, M') → am_R none 218 bk_X9_rudeness 13 (am_wr [0, 0, 0, 0, 0] []) [] SH M (am_rv (am_rk 218) x) SH M') : ∀ (n : Nat) (v1 v2 v3 v4 : Int) (M : am_M), XL_X9_rudeness_53_3 k13 n v1 v2 v3 v4 M = some (x, M') → am_R none 218 bk_X9_rudeness 3 (am_wr [56, 1, 1, 1, 1] [v1, v2, v3, v4]) [] SH M (am_rv (am_rk 218) x) SH M'
  | 0, v1, v2, v3, v4, M, h => by cases h
  | n + 1, v1, v2, v3, v4, M, h => rs_X9_rudeness_53_3 (ls_X9_rudeness_53_3 hk13 n) hk13 v1 v2 v3 v4 M h
noncomputable def X_X9_rudeness_53 (v1 v2 v3 : Int) (M : am_M) : am_Rs := XB_X9_rudeness_53_e (XL_X9_rudeness_53_3 (XB_X9_rudeness_53_13) 1000) v1 v2 v3 M
theorem dc_X9_rudeness_53 (v1 v2 v3 : Int) (M M' : am_M) (x : Int) (h : X_X9_rudeness_53 v1 v2 v3 M = some (x, M')) : am_Calls 218 [.inr (.inr (some 53)), .inl v1, .inl v2, .inl v3] SH M (am_rv (am_rk 218) x) SH M' :=
  am_enter pn_X9_rudeness ml_X9_rudeness rfl (Nat.le_of_ble_eq_true rfl) ⟨Nat.le_refl _, Nat.le_refl _⟩ (rs_X9_rudeness_53_e (ls_X9_rudeness_53_3 (rs_X9_rudeness_53_13) 1000) v1 v2 v3 M h)
noncomputable def F_X9_canBe_53 : Nat → List am_V → am_M → am_Rs := fun k as M => if k = 218 then (match as with
  | [.inr (.inr (some 53)), .inl a1, .inl a2, .inl a3] => X_X9_rudeness_53 a1 a2 a3 M
  | _ => none) else none
theorem fs_X9_canBe_53 : am_FS SH F_X9_canBe_53 := by
  intro k as M x M' h
  unfold F_X9_canBe_53 at h
  split at h
  · rename_i hk; subst hk
    split at h
    · exact dc_X9_rudeness_53 _ _ _ _ _ _ h
    · cases h
  cases h
noncomputable def X_X9_canBe_53 (v1 v2 v3 : Int) (M : am_M) : am_Rs :=
  (X_X9_rudeness_53 v1 v2 v3 M).bind fun z1 =>
  if wI z1.1 = (-9) then
   some (0, z1.2)
  else some (1, z1.2)
set_option maxRecDepth 100000 in
theorem dc_X9_canBe_53 (v1 v2 v3 : Int) (M M' : am_M) (x : Int) (h : X_X9_canBe_53 v1 v2 v3 M = some (x, M')) : am_Calls 219 [.inr (.inr (some 53)), .inl v1, .inl v2, .inl v3] SH M (am_rv (am_rk 219) x) SH M' :=
  vCall (F := F_X9_canBe_53) (C := fun _ _ _ _ => none) (fu := 6) ok_X9_canBe pn_X9_canBe ml_X9_canBe rfl (Nat.le_of_ble_eq_true rfl) fs_X9_canBe_53 (fun _ _ _ _ h => by cases h) h
noncomputable def F_X9_moves_53 : Nat → List am_V → am_M → am_Rs := fun k as M => if k = 219 then (match as with
  | [.inr (.inr (some 53)), .inl a1, .inl a2, .inl a3] => X_X9_canBe_53 a1 a2 a3 M
  | _ => none) else none
theorem fs_X9_moves_53 : am_FS SH F_X9_moves_53 := by
  intro k as M x M' h
  unfold F_X9_moves_53 at h
  split at h
  · rename_i hk; subst hk
    split at h
    · exact dc_X9_canBe_53 _ _ _ _ _ _ h
    · cases h
  cases h
noncomputable def XB_X9_moves_53_3 (c3 : Int → Int → am_M → am_Rs) (c8 : Int → am_M → am_Rs) (v1 v2 : Int) (M : am_M) : am_Rs :=
  if wI v2 < 2 then
   (X_X9_canBe_53 (M 54 1) (M 54 0) v2 M).bind fun z1 =>
   if wI z1.1 = 0 then
    c3 (b_or_ v1 0) (v2 + 1) z1.2
   else c3 (b_or_ v1 (b_shl_ 1 (v2 + 1))) (v2 + 1) z1.2
  else c8 v1 M
set_option maxRecDepth 100000 in
theorem rs_X9_moves_53_3 {x : Int} {M' : am_M} {c3 : Int → Int → am_M → am_Rs} {c8 : Int → am_M → am_Rs} (h3 : ∀ w1 w2 M, c3 w1 w2 M = some (x, M') → am_R none 220 bk_X9_moves 3 (am_wr [56, 1, 1] [w1, w2]) [] SH M (am_rv (am_rk 220) x) SH M') (h8 : ∀ w1 M, c8 w1 M = some (x, M') → am_R none 220 bk_X9_moves 8 (am_wr [0, 1, 0] [w1]) [] SH M (am_rv (am_rk 220) x) SH M') (v1 v2 : Int) (M : am_M) (h : XB_X9_moves_53_3 c3 c8 v1 v2 M = some (x, M')) : am_R none 220 bk_X9_moves 3 (am_wr [56, 1, 1] [v1, v2]) [] SH M (am_rv (am_rk 220) x) SH M' :=
  vRegion (sc := none) (sh := SH) (F := F_X9_moves_53) (k := 220) (bs := bk_X9_moves) (r := (x, M')) (C := fun t lv st M => if t = 3 then vCt [56, 1, 1] (un2 c3) lv st M else if t = 8 then vCt [0, 1, 0] (un1 c8) lv st M else none) ok_X9_moves fs_X9_moves_53 (fun t lv st M h => by
    split at h
    · rename_i e; subst e; exact vCt_s (un2_s h3) h
    split at h
    · rename_i e; subst e; exact vCt_s (un1_s h8) h
    cases h) 11 3 (am_wr [56, 1, 1] [v1, v2]) [] M h
noncomputable def XB_X9_moves_53_8 (v1 : Int) (M : am_M) : am_Rs :=
  some (v1, M)
set_option maxRecDepth 100000 in
theorem rs_X9_moves_53_8 {x : Int} {M' : am_M} (v1 : Int) (M : am_M) (h : XB_X9_moves_53_8 v1 M = some (x, M')) : am_R none 220 bk_X9_moves 8 (am_wr [0, 1, 0] [v1]) [] SH M (am_rv (am_rk 220) x) SH M' :=
  vRegion (sc := none) (sh := SH) (F := F_X9_moves_53) (k := 220) (bs := bk_X9_moves) (r := (x, M')) (C := fun t lv st M => none) ok_X9_moves fs_X9_moves_53 (fun t lv st M h => by
    cases h) 11 8 (am_wr [0, 1, 0] [v1]) [] M h
noncomputable def XB_X9_moves_53_e (c3 : Int → Int → am_M → am_Rs) (M : am_M) : am_Rs :=
  if wI (M 53 1) = 0 then
   some ((-4), M)
  else c3 0 (-1) M
set_option maxRecDepth 100000 in
theorem rs_X9_moves_53_e {x : Int} {M' : am_M} {c3 : Int → Int → am_M → am_Rs} (h3 : ∀ w1 w2 M, c3 w1 w2 M = some (x, M') → am_R none 220 bk_X9_moves 3 (am_wr [56, 1, 1] [w1, w2]) [] SH M (am_rv (am_rk 220) x) SH M') (M : am_M) (h : XB_X9_moves_53_e c3 M = some (x, M')) : am_R none 220 bk_X9_moves 0 (am_ent 3 [.inr (.inr (some 53))]) [] SH M (am_rv (am_rk 220) x) SH M' :=
  vRegion (sc := none) (sh := SH) (F := F_X9_moves_53) (k := 220) (bs := bk_X9_moves) (r := (x, M')) (C := fun t lv st M => if t = 3 then vCt [56, 1, 1] (un2 c3) lv st M else none) ok_X9_moves fs_X9_moves_53 (fun t lv st M h => by
    split at h
    · rename_i e; subst e; exact vCt_s (un2_s h3) h
    cases h) 11 0 (am_ent 3 [.inr (.inr (some 53))]) [] M h
noncomputable def XL_X9_moves_53_3 (k8 : Int → am_M → am_Rs) : Nat → Int → Int → am_M → am_Rs
  | 0, _, _, _ => none
  | n + 1, v1, v2, M => XB_X9_moves_53_3 (XL_X9_moves_53_3 k8 n) k8 v1 v2 M
theorem ls_X9_moves_53_3 {x : Int} {M' : am_M} {k8 : Int → am_M → am_Rs} (hk8 : ∀ w1 M, k8 w1 M = some (x, M') → am_R none 220 bk_X9_moves 8 (am_wr [0, 1, 0] [w1]) [] SH M (am_rv (am_rk 220) x) SH M') : ∀ (n : Nat) (v1 v2 : Int) (M : am_M), XL_X9_moves_53_3 k8 n v1 v2 M = some (x, M') → am_R none 220 bk_X9_moves 3 (am_wr [56, 1, 1] [v1, v2]) [] SH M (am_rv (am_rk 220) x) SH M'
  | 0, v1, v2, M, h => by cases h
  | n + 1, v1, v2, M, h => rs_X9_moves_53_3 (ls_X9_moves_53_3 hk8 n) hk8 v1 v2 M h
noncomputable def X_X9_moves_53 (M : am_M) : am_Rs := XB_X9_moves_53_e (XL_X9_moves_53_3 (XB_X9_moves_53_8) 1000) M
theorem dc_X9_moves_53 (M M' : am_M) (x : Int) (h : X_X9_moves_53 M = some (x, M')) : am_Calls 220 [.inr (.inr (some 53))] SH M (am_rv (am_rk 220) x) SH M' :=
  am_enter pn_X9_moves ml_X9_moves rfl (Nat.le_of_ble_eq_true rfl) ⟨Nat.le_refl _, Nat.le_refl _⟩ (rs_X9_moves_53_e (ls_X9_moves_53_3 (rs_X9_moves_53_8) 1000) M h)
noncomputable def F_X9_areMoves_53 : Nat → List am_V → am_M → am_Rs := fun k as M => if k = 168 then (match as with
  | [.inr (.inl a0), .inr (.inl a2), .inr (.inl a4)] => X_X9_in a0 a2 a4 M
  | _ => none) else none
theorem fs_X9_areMoves_53 : am_FS SH F_X9_areMoves_53 := by
  intro k as M x M' h
  unfold F_X9_areMoves_53 at h
  split at h
  · rename_i hk; subst hk
    split at h
    · exact dc_X9_in _ _ _ _ _ _ h
    · cases h
  cases h
noncomputable def XB_X9_areMoves_53_1 (c1 : Int → Int → Int → am_M → am_Rs) (c7 : Int → am_M → am_Rs) (v1 v2 v3 : Int) (M : am_M) : am_Rs :=
  if 0 ≤ wI v1 ∧ wI v1 < 6 then
  if wI v3 < wI (M 57 (wI v1).toNat) then
    if wI v2 = 0 then
     c1 v1 0 (v3 + 1) M
    else if 0 ≤ wI ((40 * v1) + v3) ∧ wI ((40 * v1) + v3) < 240 then
    (X_X9_in (wI (M 58 (wI ((40 * v1) + v3)).toNat)) (-1) 1 M).bind fun z1 =>
     if wI z1.1 = 0 then
      c1 v1 0 (v3 + 1) z1.2
     else c1 v1 1 (v3 + 1) z1.2
    else none
   else c7 v2 M
  else none
set_option maxRecDepth 100000 in
theorem rs_X9_areMoves_53_1 {x : Int} {M' : am_M} {c1 : Int → Int → Int → am_M → am_Rs} {c7 : Int → am_M → am_Rs} (h1 : ∀ w1 w2 w3 M, c1 w1 w2 w3 M = some (x, M') → am_R none 221 bk_X9_areMoves 1 (am_wr [56, 1, 1, 1] [w1, w2, w3]) [] SH M (am_rv (am_rk 221) x) SH M') (h7 : ∀ w2 M, c7 w2 M = some (x, M') → am_R none 221 bk_X9_areMoves 7 (am_wr [0, 0, 1, 0] [w2]) [] SH M (am_rv (am_rk 221) x) SH M') (v1 v2 v3 : Int) (M : am_M) (h : XB_X9_areMoves_53_1 c1 c7 v1 v2 v3 M = some (x, M')) : am_R none 221 bk_X9_areMoves 1 (am_wr [56, 1, 1, 1] [v1, v2, v3]) [] SH M (am_rv (am_rk 221) x) SH M' :=
  vRegion (sc := none) (sh := SH) (F := F_X9_areMoves_53) (k := 221) (bs := bk_X9_areMoves) (r := (x, M')) (C := fun t lv st M => if t = 1 then vCt [56, 1, 1, 1] (un3 c1) lv st M else if t = 7 then vCt [0, 0, 1, 0] (un1 c7) lv st M else none) ok_X9_areMoves fs_X9_areMoves_53 (fun t lv st M h => by
    split at h
    · rename_i e; subst e; exact vCt_s (un3_s h1) h
    split at h
    · rename_i e; subst e; exact vCt_s (un1_s h7) h
    cases h) 10 1 (am_wr [56, 1, 1, 1] [v1, v2, v3]) [] M h
noncomputable def XB_X9_areMoves_53_7 (v2 : Int) (M : am_M) : am_Rs :=
  if v2 = 0 ∨ v2 = 1 then
  some (v2, M)
  else none
set_option maxRecDepth 100000 in
theorem rs_X9_areMoves_53_7 {x : Int} {M' : am_M} (v2 : Int) (M : am_M) (h : XB_X9_areMoves_53_7 v2 M = some (x, M')) : am_R none 221 bk_X9_areMoves 7 (am_wr [0, 0, 1, 0] [v2]) [] SH M (am_rv (am_rk 221) x) SH M' :=
  vRegion (sc := none) (sh := SH) (F := F_X9_areMoves_53) (k := 221) (bs := bk_X9_areMoves) (r := (x, M')) (C := fun t lv st M => none) ok_X9_areMoves fs_X9_areMoves_53 (fun t lv st M h => by
    cases h) 10 7 (am_wr [0, 0, 1, 0] [v2]) [] M h
noncomputable def XB_X9_areMoves_53_e (c1 : Int → Int → Int → am_M → am_Rs) (v1 : Int) (M : am_M) : am_Rs :=
  c1 v1 1 0 M
set_option maxRecDepth 100000 in
theorem rs_X9_areMoves_53_e {x : Int} {M' : am_M} {c1 : Int → Int → Int → am_M → am_Rs} (h1 : ∀ w1 w2 w3 M, c1 w1 w2 w3 M = some (x, M') → am_R none 221 bk_X9_areMoves 1 (am_wr [56, 1, 1, 1] [w1, w2, w3]) [] SH M (am_rv (am_rk 221) x) SH M') (v1 : Int) (M : am_M) (h : XB_X9_areMoves_53_e c1 v1 M = some (x, M')) : am_R none 221 bk_X9_areMoves 0 (am_ent 4 [.inr (.inr (some 53)), .inl v1]) [] SH M (am_rv (am_rk 221) x) SH M' :=
  vRegion (sc := none) (sh := SH) (F := F_X9_areMoves_53) (k := 221) (bs := bk_X9_areMoves) (r := (x, M')) (C := fun t lv st M => if t = 1 then vCt [56, 1, 1, 1] (un3 c1) lv st M else none) ok_X9_areMoves fs_X9_areMoves_53 (fun t lv st M h => by
    split at h
    · rename_i e; subst e; exact vCt_s (un3_s h1) h
    cases h) 10 0 (am_ent 4 [.inr (.inr (some 53)), .inl v1]) [] M h
noncomputable def XL_X9_areMoves_53_1 (k7 : Int → am_M → am_Rs) : Nat → Int → Int → Int → am_M → am_Rs
  | 0, _, _, _, _ => none
  | n + 1, v1, v2, v3, M => XB_X9_areMoves_53_1 (XL_X9_areMoves_53_1 k7 n) k7 v1 v2 v3 M
theorem ls_X9_areMoves_53_1 {x : Int} {M' : am_M} {k7 : Int → am_M → am_Rs} (hk7 : ∀ w2 M, k7 w2 M = some (x, M') → am_R none 221 bk_X9_areMoves 7 (am_wr [0, 0, 1, 0] [w2]) [] SH M (am_rv (am_rk 221) x) SH M') : ∀ (n : Nat) (v1 v2 v3 : Int) (M : am_M), XL_X9_areMoves_53_1 k7 n v1 v2 v3 M = some (x, M') → am_R none 221 bk_X9_areMoves 1 (am_wr [56, 1, 1, 1] [v1, v2, v3]) [] SH M (am_rv (am_rk 221) x) SH M'
  | 0, v1, v2, v3, M, h => by cases h
  | n + 1, v1, v2, v3, M, h => rs_X9_areMoves_53_1 (ls_X9_areMoves_53_1 hk7 n) hk7 v1 v2 v3 M h
noncomputable def X_X9_areMoves_53 (v1 : Int) (M : am_M) : am_Rs := XB_X9_areMoves_53_e (XL_X9_areMoves_53_1 (XB_X9_areMoves_53_7) 1000) v1 M
theorem dc_X9_areMoves_53 (v1 : Int) (M M' : am_M) (x : Int) (h : X_X9_areMoves_53 v1 M = some (x, M')) : am_Calls 221 [.inr (.inr (some 53)), .inl v1] SH M (am_rv (am_rk 221) x) SH M' :=
  am_enter pn_X9_areMoves ml_X9_areMoves rfl (Nat.le_of_ble_eq_true rfl) ⟨Nat.le_refl _, Nat.le_refl _⟩ (rs_X9_areMoves_53_e (ls_X9_areMoves_53_1 (rs_X9_areMoves_53_7) 1000) v1 M h)
noncomputable def F_X9_goAlong_53 : Nat → List am_V → am_M → am_Rs := fun k as M => if k = 218 then (match as with
  | [.inr (.inr (some 53)), .inl a1, .inl a2, .inl a3] => X_X9_rudeness_53 a1 a2 a3 M
  | _ => none) else none
theorem fs_X9_goAlong_53 : am_FS SH F_X9_goAlong_53 := by
  intro k as M x M' h
  unfold F_X9_goAlong_53 at h
  split at h
  · rename_i hk; subst hk
    split at h
    · exact dc_X9_rudeness_53 _ _ _ _ _ _ h
    · cases h
  cases h
noncomputable def XB_X9_goAlong_53_1 (c1 : Int → Int → am_M → am_Rs) (c5 : Int → am_M → am_Rs) (v1 v2 : Int) (M : am_M) : am_Rs :=
  if 0 ≤ wI v1 ∧ wI v1 < 6 then
  if wI v2 < wI (M 57 (wI v1).toNat) then
    if 0 ≤ wI ((40 * v1) + v2) ∧ wI ((40 * v1) + v2) < 240 then
    (X_X9_rudeness_53 (M 53 19) ((M 54 0) + v2) (M 58 (wI ((40 * v1) + v2)).toNat) M).bind fun z1 =>
     if wI z1.1 = (-9) then
      some (v2, z1.2)
     else c1 v1 (v2 + 1) (am_up (am_up z1.2 53 19 ((z1.2 53 19) + (M 58 (wI ((40 * v1) + v2)).toNat))) 53 20 (((am_up z1.2 53 19 ((z1.2 53 19) + (M 58 (wI ((40 * v1) + v2)).toNat))) 53 20) + z1.1))
    else none
   else c5 v1 M
  else none
set_option maxRecDepth 100000 in
theorem rs_X9_goAlong_53_1 {x : Int} {M' : am_M} {c1 : Int → Int → am_M → am_Rs} {c5 : Int → am_M → am_Rs} (h1 : ∀ w1 w2 M, c1 w1 w2 M = some (x, M') → am_R none 222 bk_X9_goAlong 1 (am_wr [56, 1, 1, 0, 0] [w1, w2]) [] SH M (am_rv (am_rk 222) x) SH M') (h5 : ∀ w1 M, c5 w1 M = some (x, M') → am_R none 222 bk_X9_goAlong 5 (am_wr [56, 1, 0, 0, 0] [w1]) [] SH M (am_rv (am_rk 222) x) SH M') (v1 v2 : Int) (M : am_M) (h : XB_X9_goAlong_53_1 c1 c5 v1 v2 M = some (x, M')) : am_R none 222 bk_X9_goAlong 1 (am_wr [56, 1, 1, 0, 0] [v1, v2]) [] SH M (am_rv (am_rk 222) x) SH M' :=
  vRegion (sc := none) (sh := SH) (F := F_X9_goAlong_53) (k := 222) (bs := bk_X9_goAlong) (r := (x, M')) (C := fun t lv st M => if t = 1 then vCt [56, 1, 1, 0, 0] (un2 c1) lv st M else if t = 5 then vCt [56, 1, 0, 0, 0] (un1 c5) lv st M else none) ok_X9_goAlong fs_X9_goAlong_53 (fun t lv st M h => by
    split at h
    · rename_i e; subst e; exact vCt_s (un2_s h1) h
    split at h
    · rename_i e; subst e; exact vCt_s (un1_s h5) h
    cases h) 8 1 (am_wr [56, 1, 1, 0, 0] [v1, v2]) [] M h
noncomputable def XB_X9_goAlong_53_5 (v1 : Int) (M : am_M) : am_Rs :=
  if 0 ≤ wI v1 ∧ wI v1 < 6 then
  some (M 57 (wI v1).toNat, M)
  else none
set_option maxRecDepth 100000 in
theorem rs_X9_goAlong_53_5 {x : Int} {M' : am_M} (v1 : Int) (M : am_M) (h : XB_X9_goAlong_53_5 v1 M = some (x, M')) : am_R none 222 bk_X9_goAlong 5 (am_wr [56, 1, 0, 0, 0] [v1]) [] SH M (am_rv (am_rk 222) x) SH M' :=
  vRegion (sc := none) (sh := SH) (F := F_X9_goAlong_53) (k := 222) (bs := bk_X9_goAlong) (r := (x, M')) (C := fun t lv st M => none) ok_X9_goAlong fs_X9_goAlong_53 (fun t lv st M h => by
    cases h) 8 5 (am_wr [56, 1, 0, 0, 0] [v1]) [] M h
noncomputable def XB_X9_goAlong_53_e (c1 : Int → Int → am_M → am_Rs) (v1 : Int) (M : am_M) : am_Rs :=
  c1 v1 0 (am_up (am_up M 53 19 (M 54 1)) 53 20 0)
set_option maxRecDepth 100000 in
theorem rs_X9_goAlong_53_e {x : Int} {M' : am_M} {c1 : Int → Int → am_M → am_Rs} (h1 : ∀ w1 w2 M, c1 w1 w2 M = some (x, M') → am_R none 222 bk_X9_goAlong 1 (am_wr [56, 1, 1, 0, 0] [w1, w2]) [] SH M (am_rv (am_rk 222) x) SH M') (v1 : Int) (M : am_M) (h : XB_X9_goAlong_53_e c1 v1 M = some (x, M')) : am_R none 222 bk_X9_goAlong 0 (am_ent 5 [.inr (.inr (some 53)), .inl v1]) [] SH M (am_rv (am_rk 222) x) SH M' :=
  vRegion (sc := none) (sh := SH) (F := F_X9_goAlong_53) (k := 222) (bs := bk_X9_goAlong) (r := (x, M')) (C := fun t lv st M => if t = 1 then vCt [56, 1, 1, 0, 0] (un2 c1) lv st M else none) ok_X9_goAlong fs_X9_goAlong_53 (fun t lv st M h => by
    split at h
    · rename_i e; subst e; exact vCt_s (un2_s h1) h
    cases h) 8 0 (am_ent 5 [.inr (.inr (some 53)), .inl v1]) [] M h
noncomputable def XL_X9_goAlong_53_1 (k5 : Int → am_M → am_Rs) : Nat → Int → Int → am_M → am_Rs
  | 0, _, _, _ => none
  | n + 1, v1, v2, M => XB_X9_goAlong_53_1 (XL_X9_goAlong_53_1 k5 n) k5 v1 v2 M
theorem ls_X9_goAlong_53_1 {x : Int} {M' : am_M} {k5 : Int → am_M → am_Rs} (hk5 : ∀ w1 M, k5 w1 M = some (x, M') → am_R none 222 bk_X9_goAlong 5 (am_wr [56, 1, 0, 0, 0] [w1]) [] SH M (am_rv (am_rk 222) x) SH M') : ∀ (n : Nat) (v1 v2 : Int) (M : am_M), XL_X9_goAlong_53_1 k5 n v1 v2 M = some (x, M') → am_R none 222 bk_X9_goAlong 1 (am_wr [56, 1, 1, 0, 0] [v1, v2]) [] SH M (am_rv (am_rk 222) x) SH M'
  | 0, v1, v2, M, h => by cases h
  | n + 1, v1, v2, M, h => rs_X9_goAlong_53_1 (ls_X9_goAlong_53_1 hk5 n) hk5 v1 v2 M h
noncomputable def X_X9_goAlong_53 (v1 : Int) (M : am_M) : am_Rs := XB_X9_goAlong_53_e (XL_X9_goAlong_53_1 (XB_X9_goAlong_53_5) 1000) v1 M
theorem dc_X9_goAlong_53 (v1 : Int) (M M' : am_M) (x : Int) (h : X_X9_goAlong_53 v1 M = some (x, M')) : am_Calls 222 [.inr (.inr (some 53)), .inl v1] SH M (am_rv (am_rk 222) x) SH M' :=
  am_enter pn_X9_goAlong ml_X9_goAlong rfl (Nat.le_of_ble_eq_true rfl) ⟨Nat.le_refl _, Nat.le_refl _⟩ (rs_X9_goAlong_53_e (ls_X9_goAlong_53_1 (rs_X9_goAlong_53_5) 1000) v1 M h)
noncomputable def F_X9_judge_53 : Nat → List am_V → am_M → am_Rs := fun k as M => if k = 170 then (match as with
  | [.inr (.inr (some 53)), .inl a1] => X_X9_find_53 a1 M
  | _ => none) else if k = 172 then (match as with
  | [.inl a0] => X_X9_isRow a0 M
  | _ => none) else if k = 221 then (match as with
  | [.inr (.inr (some 53)), .inl a1] => X_X9_areMoves_53 a1 M
  | _ => none) else if k = 222 then (match as with
  | [.inr (.inr (some 53)), .inl a1] => X_X9_goAlong_53 a1 M
  | _ => none) else none
theorem fs_X9_judge_53 : am_FS SH F_X9_judge_53 := by
  intro k as M x M' h
  unfold F_X9_judge_53 at h
  split at h
  · rename_i hk; subst hk
    split at h
    · exact dc_X9_find_53 _ _ _ _ h
    · cases h
  split at h
  · rename_i hk; subst hk
    split at h
    · exact dc_X9_isRow _ _ _ _ h
    · cases h
  split at h
  · rename_i hk; subst hk
    split at h
    · exact dc_X9_areMoves_53 _ _ _ _ h
    · cases h
  split at h
  · rename_i hk; subst hk
    split at h
    · exact dc_X9_goAlong_53 _ _ _ _ h
    · cases h
  cases h
noncomputable def X_X9_judge_53 (v1 : Int) (M : am_M) : am_Rs :=
  (X_X9_isRow v1 M).bind fun z1 =>
  if wI z1.1 = 0 then
   some ((-1), z1.2)
  else if wI (z1.2 53 1) = 0 then
   some ((-4), z1.2)
  else if 0 ≤ wI v1 ∧ wI v1 < 6 then
  if wI (z1.2 57 (wI v1).toNat) < 0 then
    (X_X9_find_53 1 z1.2).bind fun z2 =>
    some (z2.1, z2.2)
   else (X_X9_areMoves_53 v1 z1.2).bind fun z2 =>
   if wI z2.1 = 0 then
    (X_X9_find_53 3 z2.2).bind fun z3 =>
    some (z3.1, z3.2)
   else (X_X9_goAlong_53 v1 z2.2).bind fun z3 =>
   some (z3.1, (am_up z3.2 53 8 (z3.2 53 19)))
  else none
set_option maxRecDepth 100000 in
theorem dc_X9_judge_53 (v1 : Int) (M M' : am_M) (x : Int) (h : X_X9_judge_53 v1 M = some (x, M')) : am_Calls 223 [.inr (.inr (some 53)), .inl v1] SH M (am_rv (am_rk 223) x) SH M' :=
  vCall (F := F_X9_judge_53) (C := fun _ _ _ _ => none) (fu := 11) ok_X9_judge pn_X9_judge ml_X9_judge rfl (Nat.le_of_ble_eq_true rfl) fs_X9_judge_53 (fun _ _ _ _ h => by cases h) h
noncomputable def F_X9_rude_53 : Nat → List am_V → am_M → am_Rs := fun k as M => if k = 170 then (match as with
  | [.inr (.inr (some 53)), .inl a1] => X_X9_find_53 a1 M
  | _ => none) else if k = 172 then (match as with
  | [.inl a0] => X_X9_isRow a0 M
  | _ => none) else if k = 221 then (match as with
  | [.inr (.inr (some 53)), .inl a1] => X_X9_areMoves_53 a1 M
  | _ => none) else if k = 222 then (match as with
  | [.inr (.inr (some 53)), .inl a1] => X_X9_goAlong_53 a1 M
  | _ => none) else none
theorem fs_X9_rude_53 : am_FS SH F_X9_rude_53 := by
  intro k as M x M' h
  unfold F_X9_rude_53 at h
  split at h
  · rename_i hk; subst hk
    split at h
    · exact dc_X9_find_53 _ _ _ _ h
    · cases h
  split at h
  · rename_i hk; subst hk
    split at h
    · exact dc_X9_isRow _ _ _ _ h
    · cases h
  split at h
  · rename_i hk; subst hk
    split at h
    · exact dc_X9_areMoves_53 _ _ _ _ h
    · cases h
  split at h
  · rename_i hk; subst hk
    split at h
    · exact dc_X9_goAlong_53 _ _ _ _ h
    · cases h
  cases h
noncomputable def X_X9_rude_53 (v1 : Int) (M : am_M) : am_Rs :=
  (X_X9_isRow v1 M).bind fun z1 =>
  if wI z1.1 = 0 then
   some ((-1), z1.2)
  else if wI (z1.2 53 1) = 0 then
   some ((-4), z1.2)
  else if 0 ≤ wI v1 ∧ wI v1 < 6 then
  if wI (z1.2 57 (wI v1).toNat) < 0 then
    (X_X9_find_53 1 z1.2).bind fun z2 =>
    some (z2.1, z2.2)
   else (X_X9_areMoves_53 v1 z1.2).bind fun z2 =>
   if wI z2.1 = 0 then
    (X_X9_find_53 3 z2.2).bind fun z3 =>
    some (z3.1, z3.2)
   else (X_X9_goAlong_53 v1 z2.2).bind fun z3 =>
   if 0 ≤ wI v1 ∧ wI v1 < 6 then
   if wI z3.1 < wI (z3.2 57 (wI v1).toNat) then
     (X_X9_find_53 3 z3.2).bind fun z4 =>
     some (z4.1, z4.2)
    else some (z3.2 53 20, z3.2)
   else none
  else none
set_option maxRecDepth 100000 in
theorem dc_X9_rude_53 (v1 : Int) (M M' : am_M) (x : Int) (h : X_X9_rude_53 v1 M = some (x, M')) : am_Calls 224 [.inr (.inr (some 53)), .inl v1] SH M (am_rv (am_rk 224) x) SH M' :=
  vCall (F := F_X9_rude_53) (C := fun _ _ _ _ => none) (fu := 12) ok_X9_rude pn_X9_rude ml_X9_rude rfl (Nat.le_of_ble_eq_true rfl) fs_X9_rude_53 (fun _ _ _ _ h => by cases h) h
noncomputable def F_X9_paysOn_53 : Nat → List am_V → am_M → am_Rs := fun k as M => if k = 198 then (match as with
  | [.inr (.inr (some 53)), .inl a1, .inl a2, .inl a3, .inl a4] => X_X9_paysTo_53 a1 a2 a3 a4 M
  | _ => none) else if k = 199 then (match as with
  | [.inl a0] => X_X9_isTaxed a0 M
  | _ => none) else none
theorem fs_X9_paysOn_53 : am_FS SH F_X9_paysOn_53 := by
  intro k as M x M' h
  unfold F_X9_paysOn_53 at h
  split at h
  · rename_i hk; subst hk
    split at h
    · exact dc_X9_paysTo_53 _ _ _ _ _ _ _ h
    · cases h
  split at h
  · rename_i hk; subst hk
    split at h
    · exact dc_X9_isTaxed _ _ _ _ h
    · cases h
  cases h
noncomputable def X_X9_paysOn_53 (v1 v2 v3 : Int) (M : am_M) : am_Rs :=
  (X_X9_isTaxed v2 M).bind fun z1 =>
  if wI z1.1 = 0 then
   some (0, z1.2)
  else (X_X9_paysTo_53 v1 0 v3 (z1.2 54 2) z1.2).bind fun z2 =>
  (X_X9_paysTo_53 v1 1 v3 (z2.2 54 3) z2.2).bind fun z3 =>
  some (z2.1 + z3.1, z3.2)
set_option maxRecDepth 100000 in
theorem dc_X9_paysOn_53 (v1 v2 v3 : Int) (M M' : am_M) (x : Int) (h : X_X9_paysOn_53 v1 v2 v3 M = some (x, M')) : am_Calls 225 [.inr (.inr (some 53)), .inl v1, .inl v2, .inl v3] SH M (am_rv (am_rk 225) x) SH M' :=
  vCall (F := F_X9_paysOn_53) (C := fun _ _ _ _ => none) (fu := 6) ok_X9_paysOn pn_X9_paysOn ml_X9_paysOn rfl (Nat.le_of_ble_eq_true rfl) fs_X9_paysOn_53 (fun _ _ _ _ h => by cases h) h
noncomputable def F_X9_pays_53 : Nat → List am_V → am_M → am_Rs := fun k as M => if k = 170 then (match as with
  | [.inr (.inr (some 53)), .inl a1] => X_X9_find_53 a1 M
  | _ => none) else if k = 172 then (match as with
  | [.inl a0] => X_X9_isRow a0 M
  | _ => none) else if k = 194 then (match as with
  | [.inr (.inr (some 53)), .inl a1] => X_X9_isStrip_53 a1 M
  | _ => none) else if k = 221 then (match as with
  | [.inr (.inr (some 53)), .inl a1] => X_X9_areMoves_53 a1 M
  | _ => none) else if k = 222 then (match as with
  | [.inr (.inr (some 53)), .inl a1] => X_X9_goAlong_53 a1 M
  | _ => none) else if k = 225 then (match as with
  | [.inr (.inr (some 53)), .inl a1, .inl a2, .inl a3] => X_X9_paysOn_53 a1 a2 a3 M
  | _ => none) else none
theorem fs_X9_pays_53 : am_FS SH F_X9_pays_53 := by
  intro k as M x M' h
  unfold F_X9_pays_53 at h
  split at h
  · rename_i hk; subst hk
    split at h
    · exact dc_X9_find_53 _ _ _ _ h
    · cases h
  split at h
  · rename_i hk; subst hk
    split at h
    · exact dc_X9_isRow _ _ _ _ h
    · cases h
  split at h
  · rename_i hk; subst hk
    split at h
    · exact dc_X9_isStrip_53 _ _ _ _ h
    · cases h
  split at h
  · rename_i hk; subst hk
    split at h
    · exact dc_X9_areMoves_53 _ _ _ _ h
    · cases h
  split at h
  · rename_i hk; subst hk
    split at h
    · exact dc_X9_goAlong_53 _ _ _ _ h
    · cases h
  split at h
  · rename_i hk; subst hk
    split at h
    · exact dc_X9_paysOn_53 _ _ _ _ _ _ h
    · cases h
  cases h
noncomputable def XB_X9_pays_53_9 (c9 : Int → Int → Int → Int → Int → am_M → am_Rs) (c11 : Int → am_M → am_Rs) (v1 v2 v3 v4 v5 : Int) (M : am_M) : am_Rs :=
  if 0 ≤ wI v2 ∧ wI v2 < 6 then
  if wI v5 < wI (M 57 (wI v2).toNat) then
    if 0 ≤ wI ((40 * v2) + v5) ∧ wI ((40 * v2) + v5) < 240 then
    (X_X9_paysOn_53 v1 ((M 54 0) + v5) (v3 + (M 58 (wI ((40 * v2) + v5)).toNat)) M).bind fun z1 =>
     c9 v1 v2 (v3 + (M 58 (wI ((40 * v2) + v5)).toNat)) (v4 + z1.1) (v5 + 1) z1.2
    else none
   else c11 v4 M
  else none
set_option maxRecDepth 100000 in
theorem rs_X9_pays_53_9 {x : Int} {M' : am_M} {c9 : Int → Int → Int → Int → Int → am_M → am_Rs} {c11 : Int → am_M → am_Rs} (h9 : ∀ w1 w2 w3 w4 w5 M, c9 w1 w2 w3 w4 w5 M = some (x, M') → am_R none 226 bk_X9_pays 9 (am_wr [56, 1, 1, 1, 1, 1] [w1, w2, w3, w4, w5]) [] SH M (am_rv (am_rk 226) x) SH M') (h11 : ∀ w4 M, c11 w4 M = some (x, M') → am_R none 226 bk_X9_pays 11 (am_wr [0, 0, 0, 0, 1, 0] [w4]) [] SH M (am_rv (am_rk 226) x) SH M') (v1 v2 v3 v4 v5 : Int) (M : am_M) (h : XB_X9_pays_53_9 c9 c11 v1 v2 v3 v4 v5 M = some (x, M')) : am_R none 226 bk_X9_pays 9 (am_wr [56, 1, 1, 1, 1, 1] [v1, v2, v3, v4, v5]) [] SH M (am_rv (am_rk 226) x) SH M' :=
  vRegion (sc := none) (sh := SH) (F := F_X9_pays_53) (k := 226) (bs := bk_X9_pays) (r := (x, M')) (C := fun t lv st M => if t = 9 then vCt [56, 1, 1, 1, 1, 1] (un5 c9) lv st M else if t = 11 then vCt [0, 0, 0, 0, 1, 0] (un1 c11) lv st M else none) ok_X9_pays fs_X9_pays_53 (fun t lv st M h => by
    split at h
    · rename_i e; subst e; exact vCt_s (un5_s h9) h
    split at h
    · rename_i e; subst e; exact vCt_s (un1_s h11) h
    cases h) 14 9 (am_wr [56, 1, 1, 1, 1, 1] [v1, v2, v3, v4, v5]) [] M h
noncomputable def XB_X9_pays_53_11 (v4 : Int) (M : am_M) : am_Rs :=
  some (v4, M)
set_option maxRecDepth 100000 in
theorem rs_X9_pays_53_11 {x : Int} {M' : am_M} (v4 : Int) (M : am_M) (h : XB_X9_pays_53_11 v4 M = some (x, M')) : am_R none 226 bk_X9_pays 11 (am_wr [0, 0, 0, 0, 1, 0] [v4]) [] SH M (am_rv (am_rk 226) x) SH M' :=
  vRegion (sc := none) (sh := SH) (F := F_X9_pays_53) (k := 226) (bs := bk_X9_pays) (r := (x, M')) (C := fun t lv st M => none) ok_X9_pays fs_X9_pays_53 (fun t lv st M h => by
    cases h) 14 11 (am_wr [0, 0, 0, 0, 1, 0] [v4]) [] M h
noncomputable def XB_X9_pays_53_e (c9 : Int → Int → Int → Int → Int → am_M → am_Rs) (v1 v2 : Int) (M : am_M) : am_Rs :=
  (X_X9_isStrip_53 v1 M).bind fun z1 =>
  if wI z1.1 = 0 then
   some ((-1), z1.2)
  else (X_X9_isRow v2 z1.2).bind fun z2 =>
  if wI z2.1 = 0 then
   some ((-1), z2.2)
  else if 0 ≤ wI v2 ∧ wI v2 < 6 then
  if wI (z2.2 57 (wI v2).toNat) < 0 then
    (X_X9_find_53 1 z2.2).bind fun z3 =>
    some (z3.1, z3.2)
   else (X_X9_areMoves_53 v2 z2.2).bind fun z3 =>
   if wI z3.1 = 0 then
    (X_X9_find_53 3 z3.2).bind fun z4 =>
    some (z4.1, z4.2)
   else (X_X9_goAlong_53 v2 z3.2).bind fun z4 =>
   if 0 ≤ wI v2 ∧ wI v2 < 6 then
   if wI z4.1 < wI (z4.2 57 (wI v2).toNat) then
     (X_X9_find_53 3 z4.2).bind fun z5 =>
     some (z5.1, z5.2)
    else c9 v1 v2 (z4.2 54 1) 0 0 z4.2
   else none
  else none
set_option maxRecDepth 100000 in
theorem rs_X9_pays_53_e {x : Int} {M' : am_M} {c9 : Int → Int → Int → Int → Int → am_M → am_Rs} (h9 : ∀ w1 w2 w3 w4 w5 M, c9 w1 w2 w3 w4 w5 M = some (x, M') → am_R none 226 bk_X9_pays 9 (am_wr [56, 1, 1, 1, 1, 1] [w1, w2, w3, w4, w5]) [] SH M (am_rv (am_rk 226) x) SH M') (v1 v2 : Int) (M : am_M) (h : XB_X9_pays_53_e c9 v1 v2 M = some (x, M')) : am_R none 226 bk_X9_pays 0 (am_ent 6 [.inr (.inr (some 53)), .inl v1, .inl v2]) [] SH M (am_rv (am_rk 226) x) SH M' :=
  vRegion (sc := none) (sh := SH) (F := F_X9_pays_53) (k := 226) (bs := bk_X9_pays) (r := (x, M')) (C := fun t lv st M => if t = 9 then vCt [56, 1, 1, 1, 1, 1] (un5 c9) lv st M else none) ok_X9_pays fs_X9_pays_53 (fun t lv st M h => by
    split at h
    · rename_i e; subst e; exact vCt_s (un5_s h9) h
    cases h) 14 0 (am_ent 6 [.inr (.inr (some 53)), .inl v1, .inl v2]) [] M h
noncomputable def XL_X9_pays_53_9 (k11 : Int → am_M → am_Rs) : Nat → Int → Int → Int → Int → Int → am_M → am_Rs
  | 0, _, _, _, _, _, _ => none
  | n + 1, v1, v2, v3, v4, v5, M => XB_X9_pays_53_9 (XL_X9_pays_53_9 k11 n) k11 v1 v2 v3 v4 v5 M
theorem ls_X9_pays_53_9 {x : Int} {M' : am_M} {k11 : Int → am_M → am_Rs} (hk11 : ∀ w4 M, k11 w4 M = some (x, M') → am_R none 226 bk_X9_pays 11 (am_wr [0, 0, 0, 0, 1, 0] [w4]) [] SH M (am_rv (am_rk 226) x) SH M') : ∀ (n : Nat) (v1 v2 v3 v4 v5 : Int) (M : am_M), XL_X9_pays_53_9 k11 n v1 v2 v3 v4 v5 M = some (x, M') → am_R none 226 bk_X9_pays 9 (am_wr [56, 1, 1, 1, 1, 1] [v1, v2, v3, v4, v5]) [] SH M (am_rv (am_rk 226) x) SH M'
  | 0, v1, v2, v3, v4, v5, M, h => by cases h
  | n + 1, v1, v2, v3, v4, v5, M, h => rs_X9_pays_53_9 (ls_X9_pays_53_9 hk11 n) hk11 v1 v2 v3 v4 v5 M h
noncomputable def X_X9_pays_53 (v1 v2 : Int) (M : am_M) : am_Rs := XB_X9_pays_53_e (XL_X9_pays_53_9 (XB_X9_pays_53_11) 1000) v1 v2 M
theorem dc_X9_pays_53 (v1 v2 : Int) (M M' : am_M) (x : Int) (h : X_X9_pays_53 v1 v2 M = some (x, M')) : am_Calls 226 [.inr (.inr (some 53)), .inl v1, .inl v2] SH M (am_rv (am_rk 226) x) SH M' :=
  am_enter pn_X9_pays ml_X9_pays rfl (Nat.le_of_ble_eq_true rfl) ⟨Nat.le_refl _, Nat.le_refl _⟩ (rs_X9_pays_53_e (ls_X9_pays_53_9 (rs_X9_pays_53_11) 1000) v1 v2 M h)
noncomputable def F_X9_isPlace_53 : Nat → List am_V → am_M → am_Rs := fun k as M => if k = 168 then (match as with
  | [.inr (.inl a0), .inr (.inl a2), .inr (.inl a4)] => X_X9_in a0 a2 a4 M
  | _ => none) else none
theorem fs_X9_isPlace_53 : am_FS SH F_X9_isPlace_53 := by
  intro k as M x M' h
  unfold F_X9_isPlace_53 at h
  split at h
  · rename_i hk; subst hk
    split at h
    · exact dc_X9_in _ _ _ _ _ _ h
    · cases h
  cases h
noncomputable def X_X9_isPlace_53 (v1 : Int) (M : am_M) : am_Rs :=
  (X_X9_in (wI v1) 0 (wI (M 53 1)) M).bind fun z1 =>
  if z1.1 = 0 ∨ z1.1 = 1 then
  some (z1.1, z1.2)
  else none
set_option maxRecDepth 100000 in
theorem dc_X9_isPlace_53 (v1 : Int) (M M' : am_M) (x : Int) (h : X_X9_isPlace_53 v1 M = some (x, M')) : am_Calls 217 [.inr (.inr (some 53)), .inl v1] SH M (am_rv (am_rk 217) x) SH M' :=
  vCall (F := F_X9_isPlace_53) (C := fun _ _ _ _ => none) (fu := 3) ok_X9_isPlace pn_X9_isPlace ml_X9_isPlace rfl (Nat.le_of_ble_eq_true rfl) fs_X9_isPlace_53 (fun _ _ _ _ h => by cases h) h
noncomputable def X_X9_has (v0 v1 : Int) (M : am_M) : am_Rs :=
  if wI (b_and_ (b_shr_ v0 v1) 1) = 1 then
   some (1, M)
  else some (0, M)
set_option maxRecDepth 100000 in
theorem dc_X9_has (v0 v1 : Int) (M M' : am_M) (x : Int) (h : X_X9_has v0 v1 M = some (x, M')) : am_Calls 169 [.inl v0, .inl v1] SH M (am_rv (am_rk 169) x) SH M' :=
  vCall (F := F_none) (C := fun _ _ _ _ => none) (fu := 6) ok_X9_has pn_X9_has ml_X9_has rfl (Nat.le_of_ble_eq_true rfl) fs_none (fun _ _ _ _ h => by cases h) h
noncomputable def F_X9_reachIn_53 : Nat → List am_V → am_M → am_Rs := fun k as M => if k = 169 then (match as with
  | [.inl a0, .inl a1] => X_X9_has a0 a1 M
  | _ => none) else if k = 219 then (match as with
  | [.inr (.inr (some 53)), .inl a1, .inl a2, .inl a3] => X_X9_canBe_53 a1 a2 a3 M
  | _ => none) else none
theorem fs_X9_reachIn_53 : am_FS SH F_X9_reachIn_53 := by
  intro k as M x M' h
  unfold F_X9_reachIn_53 at h
  split at h
  · rename_i hk; subst hk
    split at h
    · exact dc_X9_has _ _ _ _ _ h
    · cases h
  split at h
  · rename_i hk; subst hk
    split at h
    · exact dc_X9_canBe_53 _ _ _ _ _ _ h
    · cases h
  cases h
noncomputable def XB_X9_reachIn_53_1 (c3 : Int → Int → Int → Int → Int → am_M → am_Rs) (c13 : Int → am_M → am_Rs) (v1 v2 v3 : Int) (M : am_M) : am_Rs :=
  if wI v3 < wI v1 then
   c3 v1 v2 v3 0 0 M
  else c13 v2 M
set_option maxRecDepth 100000 in
theorem rs_X9_reachIn_53_1 {x : Int} {M' : am_M} {c3 : Int → Int → Int → Int → Int → am_M → am_Rs} {c13 : Int → am_M → am_Rs} (h3 : ∀ w1 w2 w3 w4 w5 M, c3 w1 w2 w3 w4 w5 M = some (x, M') → am_R none 232 bk_X9_reachIn 3 (am_wr [56, 1, 1, 1, 1, 1, 0] [w1, w2, w3, w4, w5]) [] SH M (am_rv (am_rk 232) x) SH M') (h13 : ∀ w2 M, c13 w2 M = some (x, M') → am_R none 232 bk_X9_reachIn 13 (am_wr [0, 0, 1, 0, 0, 0, 0] [w2]) [] SH M (am_rv (am_rk 232) x) SH M') (v1 v2 v3 : Int) (M : am_M) (h : XB_X9_reachIn_53_1 c3 c13 v1 v2 v3 M = some (x, M')) : am_R none 232 bk_X9_reachIn 1 (am_wr [56, 1, 1, 1, 0, 0, 0] [v1, v2, v3]) [] SH M (am_rv (am_rk 232) x) SH M' :=
  vRegion (sc := none) (sh := SH) (F := F_X9_reachIn_53) (k := 232) (bs := bk_X9_reachIn) (r := (x, M')) (C := fun t lv st M => if t = 3 then vCt [56, 1, 1, 1, 1, 1, 0] (un5 c3) lv st M else if t = 13 then vCt [0, 0, 1, 0, 0, 0, 0] (un1 c13) lv st M else none) ok_X9_reachIn fs_X9_reachIn_53 (fun t lv st M h => by
    split at h
    · rename_i e; subst e; exact vCt_s (un5_s h3) h
    split at h
    · rename_i e; subst e; exact vCt_s (un1_s h13) h
    cases h) 16 1 (am_wr [56, 1, 1, 1, 0, 0, 0] [v1, v2, v3]) [] M h
noncomputable def XB_X9_reachIn_53_3 (c5 : Int → Int → Int → Int → Int → Int → am_M → am_Rs) (c12 : Int → Int → Int → am_M → am_Rs) (v1 v2 v3 v4 v5 : Int) (M : am_M) : am_Rs :=
  if wI (M 53 1) < wI v5 then
   c12 v1 v3 v4 M
  else c5 v1 v2 v3 v4 v5 (-1) M
set_option maxRecDepth 100000 in
theorem rs_X9_reachIn_53_3 {x : Int} {M' : am_M} {c5 : Int → Int → Int → Int → Int → Int → am_M → am_Rs} {c12 : Int → Int → Int → am_M → am_Rs} (h5 : ∀ w1 w2 w3 w4 w5 w6 M, c5 w1 w2 w3 w4 w5 w6 M = some (x, M') → am_R none 232 bk_X9_reachIn 5 (am_wr [56, 1, 1, 1, 1, 1, 1] [w1, w2, w3, w4, w5, w6]) [] SH M (am_rv (am_rk 232) x) SH M') (h12 : ∀ w1 w3 w4 M, c12 w1 w3 w4 M = some (x, M') → am_R none 232 bk_X9_reachIn 12 (am_wr [56, 1, 0, 1, 1, 0, 0] [w1, w3, w4]) [] SH M (am_rv (am_rk 232) x) SH M') (v1 v2 v3 v4 v5 : Int) (M : am_M) (h : XB_X9_reachIn_53_3 c5 c12 v1 v2 v3 v4 v5 M = some (x, M')) : am_R none 232 bk_X9_reachIn 3 (am_wr [56, 1, 1, 1, 1, 1, 0] [v1, v2, v3, v4, v5]) [] SH M (am_rv (am_rk 232) x) SH M' :=
  vRegion (sc := none) (sh := SH) (F := F_X9_reachIn_53) (k := 232) (bs := bk_X9_reachIn) (r := (x, M')) (C := fun t lv st M => if t = 5 then vCt [56, 1, 1, 1, 1, 1, 1] (un6 c5) lv st M else if t = 12 then vCt [56, 1, 0, 1, 1, 0, 0] (un3 c12) lv st M else none) ok_X9_reachIn fs_X9_reachIn_53 (fun t lv st M h => by
    split at h
    · rename_i e; subst e; exact vCt_s (un6_s h5) h
    split at h
    · rename_i e; subst e; exact vCt_s (un3_s h12) h
    cases h) 16 3 (am_wr [56, 1, 1, 1, 1, 1, 0] [v1, v2, v3, v4, v5]) [] M h
noncomputable def XB_X9_reachIn_53_13 (v2 : Int) (M : am_M) : am_Rs :=
  some (v2, M)
set_option maxRecDepth 100000 in
theorem rs_X9_reachIn_53_13 {x : Int} {M' : am_M} (v2 : Int) (M : am_M) (h : XB_X9_reachIn_53_13 v2 M = some (x, M')) : am_R none 232 bk_X9_reachIn 13 (am_wr [0, 0, 1, 0, 0, 0, 0] [v2]) [] SH M (am_rv (am_rk 232) x) SH M' :=
  vRegion (sc := none) (sh := SH) (F := F_X9_reachIn_53) (k := 232) (bs := bk_X9_reachIn) (r := (x, M')) (C := fun t lv st M => none) ok_X9_reachIn fs_X9_reachIn_53 (fun t lv st M h => by
    cases h) 16 13 (am_wr [0, 0, 1, 0, 0, 0, 0] [v2]) [] M h
noncomputable def XB_X9_reachIn_53_5 (c5 : Int → Int → Int → Int → Int → Int → am_M → am_Rs) (c11 : Int → Int → Int → Int → Int → am_M → am_Rs) (v1 v2 v3 v4 v5 v6 : Int) (M : am_M) : am_Rs :=
  if wI v6 < 2 then
   (X_X9_has v2 v5 M).bind fun z1 =>
   if wI z1.1 = 0 then
    c5 v1 v2 v3 (b_or_ v4 0) v5 (v6 + 1) z1.2
   else (X_X9_canBe_53 v5 ((z1.2 54 0) + v3) v6 z1.2).bind fun z2 =>
   if wI z2.1 = 0 then
    c5 v1 v2 v3 (b_or_ v4 0) v5 (v6 + 1) z2.2
   else c5 v1 v2 v3 (b_or_ v4 (b_shl_ 1 (v5 + v6))) v5 (v6 + 1) z2.2
  else c11 v1 v2 v3 v4 v5 M
set_option maxRecDepth 100000 in
theorem rs_X9_reachIn_53_5 {x : Int} {M' : am_M} {c5 : Int → Int → Int → Int → Int → Int → am_M → am_Rs} {c11 : Int → Int → Int → Int → Int → am_M → am_Rs} (h5 : ∀ w1 w2 w3 w4 w5 w6 M, c5 w1 w2 w3 w4 w5 w6 M = some (x, M') → am_R none 232 bk_X9_reachIn 5 (am_wr [56, 1, 1, 1, 1, 1, 1] [w1, w2, w3, w4, w5, w6]) [] SH M (am_rv (am_rk 232) x) SH M') (h11 : ∀ w1 w2 w3 w4 w5 M, c11 w1 w2 w3 w4 w5 M = some (x, M') → am_R none 232 bk_X9_reachIn 11 (am_wr [56, 1, 1, 1, 1, 1, 0] [w1, w2, w3, w4, w5]) [] SH M (am_rv (am_rk 232) x) SH M') (v1 v2 v3 v4 v5 v6 : Int) (M : am_M) (h : XB_X9_reachIn_53_5 c5 c11 v1 v2 v3 v4 v5 v6 M = some (x, M')) : am_R none 232 bk_X9_reachIn 5 (am_wr [56, 1, 1, 1, 1, 1, 1] [v1, v2, v3, v4, v5, v6]) [] SH M (am_rv (am_rk 232) x) SH M' :=
  vRegion (sc := none) (sh := SH) (F := F_X9_reachIn_53) (k := 232) (bs := bk_X9_reachIn) (r := (x, M')) (C := fun t lv st M => if t = 5 then vCt [56, 1, 1, 1, 1, 1, 1] (un6 c5) lv st M else if t = 11 then vCt [56, 1, 1, 1, 1, 1, 0] (un5 c11) lv st M else none) ok_X9_reachIn fs_X9_reachIn_53 (fun t lv st M h => by
    split at h
    · rename_i e; subst e; exact vCt_s (un6_s h5) h
    split at h
    · rename_i e; subst e; exact vCt_s (un5_s h11) h
    cases h) 16 5 (am_wr [56, 1, 1, 1, 1, 1, 1] [v1, v2, v3, v4, v5, v6]) [] M h
noncomputable def XB_X9_reachIn_53_12 (c1 : Int → Int → Int → am_M → am_Rs) (v1 v3 v4 : Int) (M : am_M) : am_Rs :=
  c1 v1 v4 (v3 + 1) M
set_option maxRecDepth 100000 in
theorem rs_X9_reachIn_53_12 {x : Int} {M' : am_M} {c1 : Int → Int → Int → am_M → am_Rs} (h1 : ∀ w1 w2 w3 M, c1 w1 w2 w3 M = some (x, M') → am_R none 232 bk_X9_reachIn 1 (am_wr [56, 1, 1, 1, 0, 0, 0] [w1, w2, w3]) [] SH M (am_rv (am_rk 232) x) SH M') (v1 v3 v4 : Int) (M : am_M) (h : XB_X9_reachIn_53_12 c1 v1 v3 v4 M = some (x, M')) : am_R none 232 bk_X9_reachIn 12 (am_wr [56, 1, 0, 1, 1, 0, 0] [v1, v3, v4]) [] SH M (am_rv (am_rk 232) x) SH M' :=
  vRegion (sc := none) (sh := SH) (F := F_X9_reachIn_53) (k := 232) (bs := bk_X9_reachIn) (r := (x, M')) (C := fun t lv st M => if t = 1 then vCt [56, 1, 1, 1, 0, 0, 0] (un3 c1) lv st M else none) ok_X9_reachIn fs_X9_reachIn_53 (fun t lv st M h => by
    split at h
    · rename_i e; subst e; exact vCt_s (un3_s h1) h
    cases h) 16 12 (am_wr [56, 1, 0, 1, 1, 0, 0] [v1, v3, v4]) [] M h
noncomputable def XB_X9_reachIn_53_11 (c3 : Int → Int → Int → Int → Int → am_M → am_Rs) (v1 v2 v3 v4 v5 : Int) (M : am_M) : am_Rs :=
  c3 v1 v2 v3 v4 (v5 + 1) M
set_option maxRecDepth 100000 in
theorem rs_X9_reachIn_53_11 {x : Int} {M' : am_M} {c3 : Int → Int → Int → Int → Int → am_M → am_Rs} (h3 : ∀ w1 w2 w3 w4 w5 M, c3 w1 w2 w3 w4 w5 M = some (x, M') → am_R none 232 bk_X9_reachIn 3 (am_wr [56, 1, 1, 1, 1, 1, 0] [w1, w2, w3, w4, w5]) [] SH M (am_rv (am_rk 232) x) SH M') (v1 v2 v3 v4 v5 : Int) (M : am_M) (h : XB_X9_reachIn_53_11 c3 v1 v2 v3 v4 v5 M = some (x, M')) : am_R none 232 bk_X9_reachIn 11 (am_wr [56, 1, 1, 1, 1, 1, 0] [v1, v2, v3, v4, v5]) [] SH M (am_rv (am_rk 232) x) SH M' :=
  vRegion (sc := none) (sh := SH) (F := F_X9_reachIn_53) (k := 232) (bs := bk_X9_reachIn) (r := (x, M')) (C := fun t lv st M => if t = 3 then vCt [56, 1, 1, 1, 1, 1, 0] (un5 c3) lv st M else none) ok_X9_reachIn fs_X9_reachIn_53 (fun t lv st M h => by
    split at h
    · rename_i e; subst e; exact vCt_s (un5_s h3) h
    cases h) 16 11 (am_wr [56, 1, 1, 1, 1, 1, 0] [v1, v2, v3, v4, v5]) [] M h
noncomputable def XB_X9_reachIn_53_e (c1 : Int → Int → Int → am_M → am_Rs) (v1 : Int) (M : am_M) : am_Rs :=
  c1 v1 (b_shl_ 1 (M 54 1)) 0 M
set_option maxRecDepth 100000 in
theorem rs_X9_reachIn_53_e {x : Int} {M' : am_M} {c1 : Int → Int → Int → am_M → am_Rs} (h1 : ∀ w1 w2 w3 M, c1 w1 w2 w3 M = some (x, M') → am_R none 232 bk_X9_reachIn 1 (am_wr [56, 1, 1, 1, 0, 0, 0] [w1, w2, w3]) [] SH M (am_rv (am_rk 232) x) SH M') (v1 : Int) (M : am_M) (h : XB_X9_reachIn_53_e c1 v1 M = some (x, M')) : am_R none 232 bk_X9_reachIn 0 (am_ent 7 [.inr (.inr (some 53)), .inl v1]) [] SH M (am_rv (am_rk 232) x) SH M' :=
  vRegion (sc := none) (sh := SH) (F := F_X9_reachIn_53) (k := 232) (bs := bk_X9_reachIn) (r := (x, M')) (C := fun t lv st M => if t = 1 then vCt [56, 1, 1, 1, 0, 0, 0] (un3 c1) lv st M else none) ok_X9_reachIn fs_X9_reachIn_53 (fun t lv st M h => by
    split at h
    · rename_i e; subst e; exact vCt_s (un3_s h1) h
    cases h) 16 0 (am_ent 7 [.inr (.inr (some 53)), .inl v1]) [] M h
noncomputable def XL_X9_reachIn_53_5 (k11 : Int → Int → Int → Int → Int → am_M → am_Rs) : Nat → Int → Int → Int → Int → Int → Int → am_M → am_Rs
  | 0, _, _, _, _, _, _, _ => none
  | n + 1, v1, v2, v3, v4, v5, v6, M => XB_X9_reachIn_53_5 (XL_X9_reachIn_53_5 k11 n) k11 v1 v2 v3 v4 v5 v6 M
theorem ls_X9_reachIn_53_5 {x : Int} {M' : am_M} {k11 : Int → Int → Int → Int → Int → am_M → am_Rs} (hk11 : ∀ w1 w2 w3 w4 w5 M, k11 w1 w2 w3 w4 w5 M = some (x, M') → am_R none 232 bk_X9_reachIn 11 (am_wr [56, 1, 1, 1, 1, 1, 0] [w1, w2, w3, w4, w5]) [] SH M (am_rv (am_rk 232) x) SH M') : ∀ (n : Nat) (v1 v2 v3 v4 v5 v6 : Int) (M : am_M), XL_X9_reachIn_53_5 k11 n v1 v2 v3 v4 v5 v6 M = some (x, M') → am_R none 232 bk_X9_reachIn 5 (am_wr [56, 1, 1, 1, 1, 1, 1] [v1, v2, v3, v4, v5, v6]) [] SH M (am_rv (am_rk 232) x) SH M'
  | 0, v1, v2, v3, v4, v5, v6, M, h => by cases h
  | n + 1, v1, v2, v3, v4, v5, v6, M, h => rs_X9_reachIn_53_5 (ls_X9_reachIn_53_5 hk11 n) hk11 v1 v2 v3 v4 v5 v6 M h
noncomputable def XL_X9_reachIn_53_3 (k12 : Int → Int → Int → am_M → am_Rs) : Nat → Int → Int → Int → Int → Int → am_M → am_Rs
  | 0, _, _, _, _, _, _ => none
  | n + 1, v1, v2, v3, v4, v5, M => XB_X9_reachIn_53_3 (XL_X9_reachIn_53_5 (XB_X9_reachIn_53_11 (XL_X9_reachIn_53_3 k12 n)) 1000) k12 v1 v2 v3 v4 v5 M
theorem ls_X9_reachIn_53_3 {x : Int} {M' : am_M} {k12 : Int → Int → Int → am_M → am_Rs} (hk12 : ∀ w1 w3 w4 M, k12 w1 w3 w4 M = some (x, M') → am_R none 232 bk_X9_reachIn 12 (am_wr [56, 1, 0, 1, 1, 0, 0] [w1, w3, w4]) [] SH M (am_rv (am_rk 232) x) SH M') : ∀ (n : Nat) (v1 v2 v3 v4 v5 : Int) (M : am_M), XL_X9_reachIn_53_3 k12 n v1 v2 v3 v4 v5 M = some (x, M') → am_R none 232 bk_X9_reachIn 3 (am_wr [56, 1, 1, 1, 1, 1, 0] [v1, v2, v3, v4, v5]) [] SH M (am_rv (am_rk 232) x) SH M'
  | 0, v1, v2, v3, v4, v5, M, h => by cases h
  | n + 1, v1, v2, v3, v4, v5, M, h => rs_X9_reachIn_53_3 (ls_X9_reachIn_53_5 (rs_X9_reachIn_53_11 (ls_X9_reachIn_53_3 hk12 n)) 1000) hk12 v1 v2 v3 v4 v5 M h
noncomputable def XL_X9_reachIn_53_1 (k13 : Int → am_M → am_Rs) : Nat → Int → Int → Int → am_M → am_Rs
  | 0, _, _, _, _ => none
  | n + 1, v1, v2, v3, M => XB_X9_reachIn_53_1 (XL_X9_reachIn_53_3 (XB_X9_reachIn_53_12 (XL_X9_reachIn_53_1 k13 n)) 1000) k13 v1 v2 v3 M
theorem ls_X9_reachIn_53_1 {x : Int} {M' : am_M} {k13 : Int → am_M → am_Rs} (hk13 : ∀ w2 M, k13 w2 M = some (x, M') → am_R none 232 bk_X9_reachIn 13 (am_wr [0, 0, 1, 0, 0, 0, 0] [w2]) [] SH M (am_rv (am_rk 232) x) SH M') : ∀ (n : Nat) (v1 v2 v3 : Int) (M : am_M), XL_X9_reachIn_53_1 k13 n v1 v2 v3 M = some (x, M') → am_R none 232 bk_X9_reachIn 1 (am_wr [56, 1, 1, 1, 0, 0, 0] [v1, v2, v3]) [] SH M (am_rv (am_rk 232) x) SH M'
  | 0, v1, v2, v3, M, h => by cases h
  | n + 1, v1, v2, v3, M, h => rs_X9_reachIn_53_1 (ls_X9_reachIn_53_3 (rs_X9_reachIn_53_12 (ls_X9_reachIn_53_1 hk13 n)) 1000) hk13 v1 v2 v3 M h
noncomputable def X_X9_reachIn_53 (v1 : Int) (M : am_M) : am_Rs := XB_X9_reachIn_53_e (XL_X9_reachIn_53_1 (XB_X9_reachIn_53_13) 1000) v1 M
theorem dc_X9_reachIn_53 (v1 : Int) (M M' : am_M) (x : Int) (h : X_X9_reachIn_53 v1 M = some (x, M')) : am_Calls 232 [.inr (.inr (some 53)), .inl v1] SH M (am_rv (am_rk 232) x) SH M' :=
  am_enter pn_X9_reachIn ml_X9_reachIn rfl (Nat.le_of_ble_eq_true rfl) ⟨Nat.le_refl _, Nat.le_refl _⟩ (rs_X9_reachIn_53_e (ls_X9_reachIn_53_1 (rs_X9_reachIn_53_13) 1000) v1 M h)
noncomputable def F_X9_layWays_53 : Nat → List am_V → am_M → am_Rs := fun k as M => if k = 219 then (match as with
  | [.inr (.inr (some 53)), .inl a1, .inl a2, .inl a3] => X_X9_canBe_53 a1 a2 a3 M
  | _ => none) else none
theorem fs_X9_layWays_53 : am_FS SH F_X9_layWays_53 := by
  intro k as M x M' h
  unfold F_X9_layWays_53 at h
  split at h
  · rename_i hk; subst hk
    split at h
    · exact dc_X9_canBe_53 _ _ _ _ _ _ h
    · cases h
  cases h
noncomputable def XB_X9_layWays_53_1 (c1 : Int → Int → Int → am_M → am_Rs) (c6 : Int → am_M → am_Rs) (v1 v2 v3 : Int) (M : am_M) : am_Rs :=
  if wI (M 53 1) < wI v3 then
   c6 v1 M
  else if wI v3 = wI v2 then
   if 0 ≤ wI ((13 * v1) + v3) ∧ wI ((13 * v1) + v3) < 273 then
   c1 v1 v2 (v3 + 1) (am_up M 65 (wI ((13 * v1) + v3)).toNat 1)
   else none
  else if 0 ≤ wI ((13 * v1) + v3) ∧ wI ((13 * v1) + v3) < 273 then
  c1 v1 v2 (v3 + 1) (am_up M 65 (wI ((13 * v1) + v3)).toNat 0)
  else none
set_option maxRecDepth 100000 in
theorem rs_X9_layWays_53_1 {x : Int} {M' : am_M} {c1 : Int → Int → Int → am_M → am_Rs} {c6 : Int → am_M → am_Rs} (h1 : ∀ w1 w2 w3 M, c1 w1 w2 w3 M = some (x, M') → am_R none 233 bk_X9_layWays 1 (am_wr [56, 1, 1, 1, 0, 0, 0, 0] [w1, w2, w3]) [] SH M (am_rv (am_rk 233) x) SH M') (h6 : ∀ w1 M, c6 w1 M = some (x, M') → am_R none 233 bk_X9_layWays 6 (am_wr [56, 1, 0, 0, 0, 0, 0, 0] [w1]) [] SH M (am_rv (am_rk 233) x) SH M') (v1 v2 v3 : Int) (M : am_M) (h : XB_X9_layWays_53_1 c1 c6 v1 v2 v3 M = some (x, M')) : am_R none 233 bk_X9_layWays 1 (am_wr [56, 1, 1, 1, 0, 0, 0, 0] [v1, v2, v3]) [] SH M (am_rv (am_rk 233) x) SH M' :=
  vRegion (sc := none) (sh := SH) (F := F_X9_layWays_53) (k := 233) (bs := bk_X9_layWays) (r := (x, M')) (C := fun t lv st M => if t = 1 then vCt [56, 1, 1, 1, 0, 0, 0, 0] (un3 c1) lv st M else if t = 6 then vCt [56, 1, 0, 0, 0, 0, 0, 0] (un1 c6) lv st M else none) ok_X9_layWays fs_X9_layWays_53 (fun t lv st M h => by
    split at h
    · rename_i e; subst e; exact vCt_s (un3_s h1) h
    split at h
    · rename_i e; subst e; exact vCt_s (un1_s h6) h
    cases h) 21 1 (am_wr [56, 1, 1, 1, 0, 0, 0, 0] [v1, v2, v3]) [] M h
noncomputable def XB_X9_layWays_53_6 (c7 : Int → am_M → am_Rs) (v1 : Int) (M : am_M) : am_Rs :=
  c7 (v1 - 1) M
set_option maxRecDepth 100000 in
theorem rs_X9_layWays_53_6 {x : Int} {M' : am_M} {c7 : Int → am_M → am_Rs} (h7 : ∀ w3 M, c7 w3 M = some (x, M') → am_R none 233 bk_X9_layWays 7 (am_wr [56, 0, 0, 1, 0, 0, 0, 0] [w3]) [] SH M (am_rv (am_rk 233) x) SH M') (v1 : Int) (M : am_M) (h : XB_X9_layWays_53_6 c7 v1 M = some (x, M')) : am_R none 233 bk_X9_layWays 6 (am_wr [56, 1, 0, 0, 0, 0, 0, 0] [v1]) [] SH M (am_rv (am_rk 233) x) SH M' :=
  vRegion (sc := none) (sh := SH) (F := F_X9_layWays_53) (k := 233) (bs := bk_X9_layWays) (r := (x, M')) (C := fun t lv st M => if t = 7 then vCt [56, 0, 0, 1, 0, 0, 0, 0] (un1 c7) lv st M else none) ok_X9_layWays fs_X9_layWays_53 (fun t lv st M h => by
    split at h
    · rename_i e; subst e; exact vCt_s (un1_s h7) h
    cases h) 21 6 (am_wr [56, 1, 0, 0, 0, 0, 0, 0] [v1]) [] M h
noncomputable def XB_X9_layWays_53_7 (c9 : Int → Int → am_M → am_Rs) (c18 : am_M → am_Rs) (v3 : Int) (M : am_M) : am_Rs :=
  if wI v3 < 0 then
   c18 M
  else c9 v3 0 M
set_option maxRecDepth 100000 in
theorem rs_X9_layWays_53_7 {x : Int} {M' : am_M} {c9 : Int → Int → am_M → am_Rs} {c18 : am_M → am_Rs} (h9 : ∀ w3 w4 M, c9 w3 w4 M = some (x, M') → am_R none 233 bk_X9_layWays 9 (am_wr [56, 0, 0, 1, 1, 0, 0, 0] [w3, w4]) [] SH M (am_rv (am_rk 233) x) SH M') (h18 : ∀ M, c18 M = some (x, M') → am_R none 233 bk_X9_layWays 18 (am_wr [0, 0, 0, 0, 0, 0, 0, 0] []) [] SH M (am_rv (am_rk 233) x) SH M') (v3 : Int) (M : am_M) (h : XB_X9_layWays_53_7 c9 c18 v3 M = some (x, M')) : am_R none 233 bk_X9_layWays 7 (am_wr [56, 0, 0, 1, 0, 0, 0, 0] [v3]) [] SH M (am_rv (am_rk 233) x) SH M' :=
  vRegion (sc := none) (sh := SH) (F := F_X9_layWays_53) (k := 233) (bs := bk_X9_layWays) (r := (x, M')) (C := fun t lv st M => if t = 9 then vCt [56, 0, 0, 1, 1, 0, 0, 0] (un2 c9) lv st M else if t = 18 then vCt [0, 0, 0, 0, 0, 0, 0, 0] (un0 c18) lv st M else none) ok_X9_layWays fs_X9_layWays_53 (fun t lv st M h => by
    split at h
    · rename_i e; subst e; exact vCt_s (un2_s h9) h
    split at h
    · rename_i e; subst e; exact vCt_s (un0_s h18) h
    cases h) 21 7 (am_wr [56, 0, 0, 1, 0, 0, 0, 0] [v3]) [] M h
noncomputable def XB_X9_layWays_53_9 (c11 : Int → Int → Int → Int → am_M → am_Rs) (c17 : Int → am_M → am_Rs) (v3 v4 : Int) (M : am_M) : am_Rs :=
  if wI (M 53 1) < wI v4 then
   c17 v3 M
  else c11 v3 v4 0 (-1) M
set_option maxRecDepth 100000 in
theorem rs_X9_layWays_53_9 {x : Int} {M' : am_M} {c11 : Int → Int → Int → Int → am_M → am_Rs} {c17 : Int → am_M → am_Rs} (h11 : ∀ w3 w4 w5 w7 M, c11 w3 w4 w5 w7 M = some (x, M') → am_R none 233 bk_X9_layWays 11 (am_wr [56, 0, 0, 1, 1, 2, 0, 1] [w3, w4, w5, w7]) [] SH M (am_rv (am_rk 233) x) SH M') (h17 : ∀ w3 M, c17 w3 M = some (x, M') → am_R none 233 bk_X9_layWays 17 (am_wr [56, 0, 0, 1, 0, 0, 0, 0] [w3]) [] SH M (am_rv (am_rk 233) x) SH M') (v3 v4 : Int) (M : am_M) (h : XB_X9_layWays_53_9 c11 c17 v3 v4 M = some (x, M')) : am_R none 233 bk_X9_layWays 9 (am_wr [56, 0, 0, 1, 1, 0, 0, 0] [v3, v4]) [] SH M (am_rv (am_rk 233) x) SH M' :=
  vRegion (sc := none) (sh := SH) (F := F_X9_layWays_53) (k := 233) (bs := bk_X9_layWays) (r := (x, M')) (C := fun t lv st M => if t = 11 then vCt [56, 0, 0, 1, 1, 2, 0, 1] (un4 c11) lv st M else if t = 17 then vCt [56, 0, 0, 1, 0, 0, 0, 0] (un1 c17) lv st M else none) ok_X9_layWays fs_X9_layWays_53 (fun t lv st M h => by
    split at h
    · rename_i e; subst e; exact vCt_s (un4_s h11) h
    split at h
    · rename_i e; subst e; exact vCt_s (un1_s h17) h
    cases h) 21 9 (am_wr [56, 0, 0, 1, 1, 0, 0, 0] [v3, v4]) [] M h
noncomputable def XB_X9_layWays_53_18 (M : am_M) : am_Rs :=
  some (0, M)
set_option maxRecDepth 100000 in
theorem rs_X9_layWays_53_18 {x : Int} {M' : am_M} (M : am_M) (h : XB_X9_layWays_53_18 M = some (x, M')) : am_R none 233 bk_X9_layWays 18 (am_wr [0, 0, 0, 0, 0, 0, 0, 0] []) [] SH M (am_rv (am_rk 233) x) SH M' :=
  vRegion (sc := none) (sh := SH) (F := F_X9_layWays_53) (k := 233) (bs := bk_X9_layWays) (r := (x, M')) (C := fun t lv st M => none) ok_X9_layWays fs_X9_layWays_53 (fun t lv st M h => by
    cases h) 21 18 (am_wr [0, 0, 0, 0, 0, 0, 0, 0] []) [] M h
noncomputable def XB_X9_layWays_53_11 (c11 : Int → Int → Int → Int → am_M → am_Rs) (c16 : Int → Int → Int → am_M → am_Rs) (v3 v4 v5 v7 : Int) (M : am_M) : am_Rs :=
  if wI v7 < 2 then
   (X_X9_canBe_53 v4 ((M 54 0) + v3) v7 M).bind fun z1 =>
   if wI z1.1 = 0 then
    c11 v3 v4 (v5 + 0) (v7 + 1) z1.2
   else if 0 ≤ wI (((13 * (v3 + 1)) + v4) + v7) ∧ wI (((13 * (v3 + 1)) + v4) + v7) < 273 then
   c11 v3 v4 (v5 + (z1.2 65 (wI (((13 * (v3 + 1)) + v4) + v7)).toNat)) (v7 + 1) z1.2
   else none
  else c16 v3 v4 v5 M
set_option maxRecDepth 100000 in
theorem rs_X9_layWays_53_11 {x : Int} {M' : am_M} {c11 : Int → Int → Int → Int → am_M → am_Rs} {c16 : Int → Int → Int → am_M → am_Rs} (h11 : ∀ w3 w4 w5 w7 M, c11 w3 w4 w5 w7 M = some (x, M') → am_R none 233 bk_X9_layWays 11 (am_wr [56, 0, 0, 1, 1, 2, 0, 1] [w3, w4, w5, w7]) [] SH M (am_rv (am_rk 233) x) SH M') (h16 : ∀ w3 w4 w5 M, c16 w3 w4 w5 M = some (x, M') → am_R none 233 bk_X9_layWays 16 (am_wr [56, 0, 0, 1, 1, 2, 0, 0] [w3, w4, w5]) [] SH M (am_rv (am_rk 233) x) SH M') (v3 v4 v5 v7 : Int) (M : am_M) (h : XB_X9_layWays_53_11 c11 c16 v3 v4 v5 v7 M = some (x, M')) : am_R none 233 bk_X9_layWays 11 (am_wr [56, 0, 0, 1, 1, 2, 0, 1] [v3, v4, v5, v7]) [] SH M (am_rv (am_rk 233) x) SH M' :=
  vRegion (sc := none) (sh := SH) (F := F_X9_layWays_53) (k := 233) (bs := bk_X9_layWays) (r := (x, M')) (C := fun t lv st M => if t = 11 then vCt [56, 0, 0, 1, 1, 2, 0, 1] (un4 c11) lv st M else if t = 16 then vCt [56, 0, 0, 1, 1, 2, 0, 0] (un3 c16) lv st M else none) ok_X9_layWays fs_X9_layWays_53 (fun t lv st M h => by
    split at h
    · rename_i e; subst e; exact vCt_s (un4_s h11) h
    split at h
    · rename_i e; subst e; exact vCt_s (un3_s h16) h
    cases h) 21 11 (am_wr [56, 0, 0, 1, 1, 2, 0, 1] [v3, v4, v5, v7]) [] M h
noncomputable def XB_X9_layWays_53_17 (c7 : Int → am_M → am_Rs) (v3 : Int) (M : am_M) : am_Rs :=
  c7 (v3 + (-1)) M
set_option maxRecDepth 100000 in
theorem rs_X9_layWays_53_17 {x : Int} {M' : am_M} {c7 : Int → am_M → am_Rs} (h7 : ∀ w3 M, c7 w3 M = some (x, M') → am_R none 233 bk_X9_layWays 7 (am_wr [56, 0, 0, 1, 0, 0, 0, 0] [w3]) [] SH M (am_rv (am_rk 233) x) SH M') (v3 : Int) (M : am_M) (h : XB_X9_layWays_53_17 c7 v3 M = some (x, M')) : am_R none 233 bk_X9_layWays 17 (am_wr [56, 0, 0, 1, 0, 0, 0, 0] [v3]) [] SH M (am_rv (am_rk 233) x) SH M' :=
  vRegion (sc := none) (sh := SH) (F := F_X9_layWays_53) (k := 233) (bs := bk_X9_layWays) (r := (x, M')) (C := fun t lv st M => if t = 7 then vCt [56, 0, 0, 1, 0, 0, 0, 0] (un1 c7) lv st M else none) ok_X9_layWays fs_X9_layWays_53 (fun t lv st M h => by
    split at h
    · rename_i e; subst e; exact vCt_s (un1_s h7) h
    cases h) 21 17 (am_wr [56, 0, 0, 1, 0, 0, 0, 0] [v3]) [] M h
noncomputable def XB_X9_layWays_53_16 (c9 : Int → Int → am_M → am_Rs) (v3 v4 v5 : Int) (M : am_M) : am_Rs :=
  if 0 ≤ wI ((13 * v3) + v4) ∧ wI ((13 * v3) + v4) < 273 then
  c9 v3 (v4 + 1) (am_up M 65 (wI ((13 * v3) + v4)).toNat v5)
  else none
set_option maxRecDepth 100000 in
theorem rs_X9_layWays_53_16 {x : Int} {M' : am_M} {c9 : Int → Int → am_M → am_Rs} (h9 : ∀ w3 w4 M, c9 w3 w4 M = some (x, M') → am_R none 233 bk_X9_layWays 9 (am_wr [56, 0, 0, 1, 1, 0, 0, 0] [w3, w4]) [] SH M (am_rv (am_rk 233) x) SH M') (v3 v4 v5 : Int) (M : am_M) (h : XB_X9_layWays_53_16 c9 v3 v4 v5 M = some (x, M')) : am_R none 233 bk_X9_layWays 16 (am_wr [56, 0, 0, 1, 1, 2, 0, 0] [v3, v4, v5]) [] SH M (am_rv (am_rk 233) x) SH M' :=
  vRegion (sc := none) (sh := SH) (F := F_X9_layWays_53) (k := 233) (bs := bk_X9_layWays) (r := (x, M')) (C := fun t lv st M => if t = 9 then vCt [56, 0, 0, 1, 1, 0, 0, 0] (un2 c9) lv st M else none) ok_X9_layWays fs_X9_layWays_53 (fun t lv st M h => by
    split at h
    · rename_i e; subst e; exact vCt_s (un2_s h9) h
    cases h) 21 16 (am_wr [56, 0, 0, 1, 1, 2, 0, 0] [v3, v4, v5]) [] M h
noncomputable def XB_X9_layWays_53_e (c1 : Int → Int → Int → am_M → am_Rs) (v1 v2 : Int) (M : am_M) : am_Rs :=
  c1 v1 v2 0 M
set_option maxRecDepth 100000 in
theorem rs_X9_layWays_53_e {x : Int} {M' : am_M} {c1 : Int → Int → Int → am_M → am_Rs} (h1 : ∀ w1 w2 w3 M, c1 w1 w2 w3 M = some (x, M') → am_R none 233 bk_X9_layWays 1 (am_wr [56, 1, 1, 1, 0, 0, 0, 0] [w1, w2, w3]) [] SH M (am_rv (am_rk 233) x) SH M') (v1 v2 : Int) (M : am_M) (h : XB_X9_layWays_53_e c1 v1 v2 M = some (x, M')) : am_R none 233 bk_X9_layWays 0 (am_ent 8 [.inr (.inr (some 53)), .inl v1, .inl v2]) [] SH M (am_rv (am_rk 233) x) SH M' :=
  vRegion (sc := none) (sh := SH) (F := F_X9_layWays_53) (k := 233) (bs := bk_X9_layWays) (r := (x, M')) (C := fun t lv st M => if t = 1 then vCt [56, 1, 1, 1, 0, 0, 0, 0] (un3 c1) lv st M else none) ok_X9_layWays fs_X9_layWays_53 (fun t lv st M h => by
    split at h
    · rename_i e; subst e; exact vCt_s (un3_s h1) h
    cases h) 21 0 (am_ent 8 [.inr (.inr (some 53)), .inl v1, .inl v2]) [] M h
noncomputable def XL_X9_layWays_53_1 (k6 : Int → am_M → am_Rs) : Nat → Int → Int → Int → am_M → am_Rs
  | 0, _, _, _, _ => none
  | n + 1, v1, v2, v3, M => XB_X9_layWays_53_1 (XL_X9_layWays_53_1 k6 n) k6 v1 v2 v3 M
theorem ls_X9_layWays_53_1 {x : Int} {M' : am_M} {k6 : Int → am_M → am_Rs} (hk6 : ∀ w1 M, k6 w1 M = some (x, M') → am_R none 233 bk_X9_layWays 6 (am_wr [56, 1, 0, 0, 0, 0, 0, 0] [w1]) [] SH M (am_rv (am_rk 233) x) SH M') : ∀ (n : Nat) (v1 v2 v3 : Int) (M : am_M), XL_X9_layWays_53_1 k6 n v1 v2 v3 M = some (x, M') → am_R none 233 bk_X9_layWays 1 (am_wr [56, 1, 1, 1, 0, 0, 0, 0] [v1, v2, v3]) [] SH M (am_rv (am_rk 233) x) SH M'
  | 0, v1, v2, v3, M, h => by cases h
  | n + 1, v1, v2, v3, M, h => rs_X9_layWays_53_1 (ls_X9_layWays_53_1 hk6 n) hk6 v1 v2 v3 M h
noncomputable def XL_X9_layWays_53_11 (k16 : Int → Int → Int → am_M → am_Rs) : Nat → Int → Int → Int → Int → am_M → am_Rs
  | 0, _, _, _, _, _ => none
  | n + 1, v3, v4, v5, v7, M => XB_X9_layWays_53_11 (XL_X9_layWays_53_11 k16 n) k16 v3 v4 v5 v7 M
theorem ls_X9_layWays_53_11 {x : Int} {M' : am_M} {k16 : Int → Int → Int → am_M → am_Rs} (hk16 : ∀ w3 w4 w5 M, k16 w3 w4 w5 M = some (x, M') → am_R none 233 bk_X9_layWays 16 (am_wr [56, 0, 0, 1, 1, 2, 0, 0] [w3, w4, w5]) [] SH M (am_rv (am_rk 233) x) SH M') : ∀ (n : Nat) (v3 v4 v5 v7 : Int) (M : am_M), XL_X9_layWays_53_11 k16 n v3 v4 v5 v7 M = some (x, M') → am_R none 233 bk_X9_layWays 11 (am_wr [56, 0, 0, 1, 1, 2, 0, 1] [v3, v4, v5, v7]) [] SH M (am_rv (am_rk 233) x) SH M'
  | 0, v3, v4, v5, v7, M, h => by cases h
  | n + 1, v3, v4, v5, v7, M, h => rs_X9_layWays_53_11 (ls_X9_layWays_53_11 hk16 n) hk16 v3 v4 v5 v7 M h
noncomputable def XL_X9_layWays_53_9 (k17 : Int → am_M → am_Rs) : Nat → Int → Int → am_M → am_Rs
  | 0, _, _, _ => none
  | n + 1, v3, v4, M => XB_X9_layWays_53_9 (XL_X9_layWays_53_11 (XB_X9_layWays_53_16 (XL_X9_layWays_53_9 k17 n)) 1000) k17 v3 v4 M
theorem ls_X9_layWays_53_9 {x : Int} {M' : am_M} {k17 : Int → am_M → am_Rs} (hk17 : ∀ w3 M, k17 w3 M = some (x, M') → am_R none 233 bk_X9_layWays 17 (am_wr [56, 0, 0, 1, 0, 0, 0, 0] [w3]) [] SH M (am_rv (am_rk 233) x) SH M') : ∀ (n : Nat) (v3 v4 : Int) (M : am_M), XL_X9_layWays_53_9 k17 n v3 v4 M = some (x, M') → am_R none 233 bk_X9_layWays 9 (am_wr [56, 0, 0, 1, 1, 0, 0, 0] [v3, v4]) [] SH M (am_rv (am_rk 233) x) SH M'
  | 0, v3, v4, M, h => by cases h
  | n + 1, v3, v4, M, h => rs_X9_layWays_53_9 (ls_X9_layWays_53_11 (rs_X9_layWays_53_16 (ls_X9_layWays_53_9 hk17 n)) 1000) hk17 v3 v4 M h
noncomputable def XL_X9_layWays_53_7 (k18 : am_M → am_Rs) : Nat → Int → am_M → am_Rs
  | 0, _, _ => none
  | n + 1, v3, M => XB_X9_layWays_53_7 (XL_X9_layWays_53_9 (XB_X9_layWays_53_17 (XL_X9_layWays_53_7 k18 n)) 1000) k18 v3 M
theorem ls_X9_layWays_53_7 {x : Int} {M' : am_M} {k18 : am_M → am_Rs} (hk18 : ∀ M, k18 M = some (x, M') → am_R none 233 bk_X9_layWays 18 (am_wr [0, 0, 0, 0, 0, 0, 0, 0] []) [] SH M (am_rv (am_rk 233) x) SH M') : ∀ (n : Nat) (v3 : Int) (M : am_M), XL_X9_layWays_53_7 k18 n v3 M = some (x, M') → am_R none 233 bk_X9_layWays 7 (am_wr [56, 0, 0, 1, 0, 0, 0, 0] [v3]) [] SH M (am_rv (am_rk 233) x) SH M'
  | 0, v3, M, h => by cases h
  | n + 1, v3, M, h => rs_X9_layWays_53_7 (ls_X9_layWays_53_9 (rs_X9_layWays_53_17 (ls_X9_layWays_53_7 hk18 n)) 1000) hk18 v3 M h
noncomputable def X_X9_layWays_53 (v1 v2 : Int) (M : am_M) : am_Rs := XB_X9_layWays_53_e (XL_X9_layWays_53_1 (XB_X9_layWays_53_6 (XL_X9_layWays_53_7 (XB_X9_layWays_53_18) 1000)) 1000) v1 v2 M
theorem dc_X9_layWays_53 (v1 v2 : Int) (M M' : am_M) (x : Int) (h : X_X9_layWays_53 v1 v2 M = some (x, M')) : am_Calls 233 [.inr (.inr (some 53)), .inl v1, .inl v2] SH M (am_rv (am_rk 233) x) SH M' :=
  am_enter pn_X9_layWays ml_X9_layWays rfl (Nat.le_of_ble_eq_true rfl) ⟨Nat.le_refl _, Nat.le_refl _⟩ (rs_X9_layWays_53_e (ls_X9_layWays_53_1 (rs_X9_layWays_53_6 (ls_X9_layWays_53_7 (rs_X9_layWays_53_18) 1000)) 1000) v1 v2 M h)
noncomputable def F_X9_firstRow_53 : Nat → List am_V → am_M → am_Rs := fun k as M => if k = 175 then (match as with
  | [.inr (.inr (some 53)), .inl a1, .inl a2] => X_X9_makeRow_53 a1 a2 M
  | _ => none) else if k = 219 then (match as with
  | [.inr (.inr (some 53)), .inl a1, .inl a2, .inl a3] => X_X9_canBe_53 a1 a2 a3 M
  | _ => none) else none
theorem fs_X9_firstRow_53 : am_FS SH F_X9_firstRow_53 := by
  intro k as M x M' h
  unfold F_X9_firstRow_53 at h
  split at h
  · rename_i hk; subst hk
    split at h
    · exact dc_X9_makeRow_53 _ _ _ _ _ h
    · cases h
  split at h
  · rename_i hk; subst hk
    split at h
    · exact dc_X9_canBe_53 _ _ _ _ _ _ h
    · cases h
  cases h
noncomputable def XB_X9_firstRow_53_1 (c3 : Int → Int → Int → Int → Int → am_M → am_Rs) (c7 : am_M → am_Rs) (v1 v2 v3 v4 : Int) (M : am_M) : am_Rs :=
  if wI v4 < wI v2 then
   c3 v1 v2 v3 v4 (-1) M
  else c7 M
set_option maxRecDepth 100000 in
theorem rs_X9_firstRow_53_1 {x : Int} {M' : am_M} {c3 : Int → Int → Int → Int → Int → am_M → am_Rs} {c7 : am_M → am_Rs} (h3 : ∀ w1 w2 w3 w4 w5 M, c3 w1 w2 w3 w4 w5 M = some (x, M') → am_R none 234 bk_X9_firstRow 3 (am_wr [56, 1, 1, 1, 1, 1] [w1, w2, w3, w4, w5]) [] SH M (am_rv (am_rk 234) x) SH M') (h7 : ∀ M, c7 M = some (x, M') → am_R none 234 bk_X9_firstRow 7 (am_wr [0, 0, 0, 0, 0, 0] []) [] SH M (am_rv (am_rk 234) x) SH M') (v1 v2 v3 v4 : Int) (M : am_M) (h : XB_X9_firstRow_53_1 c3 c7 v1 v2 v3 v4 M = some (x, M')) : am_R none 234 bk_X9_firstRow 1 (am_wr [56, 1, 1, 1, 1, 0] [v1, v2, v3, v4]) [] SH M (am_rv (am_rk 234) x) SH M' :=
  vRegion (sc := none) (sh := SH) (F := F_X9_firstRow_53) (k := 234) (bs := bk_X9_firstRow) (r := (x, M')) (C := fun t lv st M => if t = 3 then vCt [56, 1, 1, 1, 1, 1] (un5 c3) lv st M else if t = 7 then vCt [0, 0, 0, 0, 0, 0] (un0 c7) lv st M else none) ok_X9_firstRow fs_X9_firstRow_53 (fun t lv st M h => by
    split at h
    · rename_i e; subst e; exact vCt_s (un5_s h3) h
    split at h
    · rename_i e; subst e; exact vCt_s (un0_s h7) h
    cases h) 10 1 (am_wr [56, 1, 1, 1, 1, 0] [v1, v2, v3, v4]) [] M h
noncomputable def XB_X9_firstRow_53_3 (c3 : Int → Int → Int → Int → Int → am_M → am_Rs) (c6 : Int → Int → Int → Int → Int → am_M → am_Rs) (v1 v2 v3 v4 v5 : Int) (M : am_M) : am_Rs :=
  (X_X9_canBe_53 v3 ((M 54 0) + v4) v5 M).bind fun z1 =>
  if wI z1.1 = 0 then
   c3 v1 v2 v3 v4 (v5 + 1) z1.2
  else if 0 ≤ wI (((13 * (v4 + 1)) + v3) + v5) ∧ wI (((13 * (v4 + 1)) + v3) + v5) < 273 then
  if wI (c_lcmp (z1.2 65 (wI (((13 * (v4 + 1)) + v3) + v5)).toNat) 0) = 0 then
    c3 v1 v2 v3 v4 (v5 + 1) z1.2
   else c6 v1 v2 v3 v4 v5 z1.2
  else none
set_option maxRecDepth 100000 in
theorem rs_X9_firstRow_53_3 {x : Int} {M' : am_M} {c3 : Int → Int → Int → Int → Int → am_M → am_Rs} {c6 : Int → Int → Int → Int → Int → am_M → am_Rs} (h3 : ∀ w1 w2 w3 w4 w5 M, c3 w1 w2 w3 w4 w5 M = some (x, M') → am_R none 234 bk_X9_firstRow 3 (am_wr [56, 1, 1, 1, 1, 1] [w1, w2, w3, w4, w5]) [] SH M (am_rv (am_rk 234) x) SH M') (h6 : ∀ w1 w2 w3 w4 w5 M, c6 w1 w2 w3 w4 w5 M = some (x, M') → am_R none 234 bk_X9_firstRow 6 (am_wr [56, 1, 1, 1, 1, 1] [w1, w2, w3, w4, w5]) [] SH M (am_rv (am_rk 234) x) SH M') (v1 v2 v3 v4 v5 : Int) (M : am_M) (h : XB_X9_firstRow_53_3 c3 c6 v1 v2 v3 v4 v5 M = some (x, M')) : am_R none 234 bk_X9_firstRow 3 (am_wr [56, 1, 1, 1, 1, 1] [v1, v2, v3, v4, v5]) [] SH M (am_rv (am_rk 234) x) SH M' :=
  vRegion (sc := none) (sh := SH) (F := F_X9_firstRow_53) (k := 234) (bs := bk_X9_firstRow) (r := (x, M')) (C := fun t lv st M => if t = 3 then vCt [56, 1, 1, 1, 1, 1] (un5 c3) lv st M else if t = 6 then vCt [56, 1, 1, 1, 1, 1] (un5 c6) lv st M else none) ok_X9_firstRow fs_X9_firstRow_53 (fun t lv st M h => by
    split at h
    · rename_i e; subst e; exact vCt_s (un5_s h3) h
    split at h
    · rename_i e; subst e; exact vCt_s (un5_s h6) h
    cases h) 10 3 (am_wr [56, 1, 1, 1, 1, 1] [v1, v2, v3, v4, v5]) [] M h
noncomputable def XB_X9_firstRow_53_7 (M : am_M) : am_Rs :=
  some (0, M)
set_option maxRecDepth 100000 in
theorem rs_X9_firstRow_53_7 {x : Int} {M' : am_M} (M : am_M) (h : XB_X9_firstRow_53_7 M = some (x, M')) : am_R none 234 bk_X9_firstRow 7 (am_wr [0, 0, 0, 0, 0, 0] []) [] SH M (am_rv (am_rk 234) x) SH M' :=
  vRegion (sc := none) (sh := SH) (F := F_X9_firstRow_53) (k := 234) (bs := bk_X9_firstRow) (r := (x, M')) (C := fun t lv st M => none) ok_X9_firstRow fs_X9_firstRow_53 (fun t lv st M h => by
    cases h) 10 7 (am_wr [0, 0, 0, 0, 0, 0] []) [] M h
noncomputable def XB_X9_firstRow_53_6 (c1 : Int → Int → Int → Int → am_M → am_Rs) (v1 v2 v3 v4 v5 : Int) (M : am_M) : am_Rs :=
  if 0 ≤ wI ((40 * v1) + v4) ∧ wI ((40 * v1) + v4) < 240 then
  c1 v1 v2 (v3 + v5) (v4 + 1) (am_up M 58 (wI ((40 * v1) + v4)).toNat v5)
  else none
set_option maxRecDepth 100000 in
theorem rs_X9_firstRow_53_6 {x : Int} {M' : am_M} {c1 : Int → Int → Int → Int → am_M → am_Rs} (h1 : ∀ w1 w2 w3 w4 M, c1 w1 w2 w3 w4 M = some (x, M') → am_R none 234 bk_X9_firstRow 1 (am_wr [56, 1, 1, 1, 1, 0] [w1, w2, w3, w4]) [] SH M (am_rv (am_rk 234) x) SH M') (v1 v2 v3 v4 v5 : Int) (M : am_M) (h : XB_X9_firstRow_53_6 c1 v1 v2 v3 v4 v5 M = some (x, M')) : am_R none 234 bk_X9_firstRow 6 (am_wr [56, 1, 1, 1, 1, 1] [v1, v2, v3, v4, v5]) [] SH M (am_rv (am_rk 234) x) SH M' :=
  vRegion (sc := none) (sh := SH) (F := F_X9_firstRow_53) (k := 234) (bs := bk_X9_firstRow) (r := (x, M')) (C := fun t lv st M => if t = 1 then vCt [56, 1, 1, 1, 1, 0] (un4 c1) lv st M else none) ok_X9_firstRow fs_X9_firstRow_53 (fun t lv st M h => by
    split at h
    · rename_i e; subst e; exact vCt_s (un4_s h1) h
    cases h) 10 6 (am_wr [56, 1, 1, 1, 1, 1] [v1, v2, v3, v4, v5]) [] M h
noncomputable def XB_X9_firstRow_53_e (c1 : Int → Int → Int → Int → am_M → am_Rs) (v1 v2 : Int) (M : am_M) : am_Rs :=
  (X_X9_makeRow_53 v1 v2 M).bind fun z1 =>
  c1 v1 v2 (M 54 1) 0 z1.2
set_option maxRecDepth 100000 in
theorem rs_X9_firstRow_53_e {x : Int} {M' : am_M} {c1 : Int → Int → Int → Int → am_M → am_Rs} (h1 : ∀ w1 w2 w3 w4 M, c1 w1 w2 w3 w4 M = some (x, M') → am_R none 234 bk_X9_firstRow 1 (am_wr [56, 1, 1, 1, 1, 0] [w1, w2, w3, w4]) [] SH M (am_rv (am_rk 234) x) SH M') (v1 v2 : Int) (M : am_M) (h : XB_X9_firstRow_53_e c1 v1 v2 M = some (x, M')) : am_R none 234 bk_X9_firstRow 0 (am_ent 6 [.inr (.inr (some 53)), .inl v1, .inl v2]) [] SH M (am_rv (am_rk 234) x) SH M' :=
  vRegion (sc := none) (sh := SH) (F := F_X9_firstRow_53) (k := 234) (bs := bk_X9_firstRow) (r := (x, M')) (C := fun t lv st M => if t = 1 then vCt [56, 1, 1, 1, 1, 0] (un4 c1) lv st M else none) ok_X9_firstRow fs_X9_firstRow_53 (fun t lv st M h => by
    split at h
    · rename_i e; subst e; exact vCt_s (un4_s h1) h
    cases h) 10 0 (am_ent 6 [.inr (.inr (some 53)), .inl v1, .inl v2]) [] M h
noncomputable def XL_X9_firstRow_53_3 (k6 : Int → Int → Int → Int → Int → am_M → am_Rs) : Nat → Int → Int → Int → Int → Int → am_M → am_Rs
  | 0, _, _, _, _, _, _ => none
  | n + 1, v1, v2, v3, v4, v5, M => XB_X9_firstRow_53_3 (XL_X9_firstRow_53_3 k6 n) k6 v1 v2 v3 v4 v5 M
theorem ls_X9_firstRow_53_3 {x : Int} {M' : am_M} {k6 : Int → Int → Int → Int → Int → am_M → am_Rs} (hk6 : ∀ w1 w2 w3 w4 w5 M, k6 w1 w2 w3 w4 w5 M = some (x, M') → am_R none 234 bk_X9_firstRow 6 (am_wr [56, 1, 1, 1, 1, 1] [w1, w2, w3, w4, w5]) [] SH M (am_rv (am_rk 234) x) SH M') : ∀ (n : Nat) (v1 v2 v3 v4 v5 : Int) (M : am_M), XL_X9_firstRow_53_3 k6 n v1 v2 v3 v4 v5 M = some (x, M') → am_R none 234 bk_X9_firstRow 3 (am_wr [56, 1, 1, 1, 1, 1] [v1, v2, v3, v4, v5]) [] SH M (am_rv (am_rk 234) x) SH M'
  | 0, v1, v2, v3, v4, v5, M, h => by cases h
  | n + 1, v1, v2, v3, v4, v5, M, h => rs_X9_firstRow_53_3 (ls_X9_firstRow_53_3 hk6 n) hk6 v1 v2 v3 v4 v5 M h
noncomputable def XL_X9_firstRow_53_1 (k7 : am_M → am_Rs) : Nat → Int → Int → Int → Int → am_M → am_Rs
  | 0, _, _, _, _, _ => none
  | n + 1, v1, v2, v3, v4, M => XB_X9_firstRow_53_1 (XL_X9_firstRow_53_3 (XB_X9_firstRow_53_6 (XL_X9_firstRow_53_1 k7 n)) 1000) k7 v1 v2 v3 v4 M
theorem ls_X9_firstRow_53_1 {x : Int} {M' : am_M} {k7 : am_M → am_Rs} (hk7 : ∀ M, k7 M = some (x, M') → am_R none 234 bk_X9_firstRow 7 (am_wr [0, 0, 0, 0, 0, 0] []) [] SH M (am_rv (am_rk 234) x) SH M') : ∀ (n : Nat) (v1 v2 v3 v4 : Int) (M : am_M), XL_X9_firstRow_53_1 k7 n v1 v2 v3 v4 M = some (x, M') → am_R none 234 bk_X9_firstRow 1 (am_wr [56, 1, 1, 1, 1, 0] [v1, v2, v3, v4]) [] SH M (am_rv (am_rk 234) x) SH M'
  | 0, v1, v2, v3, v4, M, h => by cases h
  | n + 1, v1, v2, v3, v4, M, h => rs_X9_firstRow_53_1 (ls_X9_firstRow_53_3 (rs_X9_firstRow_53_6 (ls_X9_firstRow_53_1 hk7 n)) 1000) hk7 v1 v2 v3 v4 M h
noncomputable def X_X9_firstRow_53 (v1 v2 : Int) (M : am_M) : am_Rs := XB_X9_firstRow_53_e (XL_X9_firstRow_53_1 (XB_X9_firstRow_53_7) 1000) v1 v2 M
theorem dc_X9_firstRow_53 (v1 v2 : Int) (M M' : am_M) (x : Int) (h : X_X9_firstRow_53 v1 v2 M = some (x, M')) : am_Calls 234 [.inr (.inr (some 53)), .inl v1, .inl v2] SH M (am_rv (am_rk 234) x) SH M' :=
  am_enter pn_X9_firstRow ml_X9_firstRow rfl (Nat.le_of_ble_eq_true rfl) ⟨Nat.le_refl _, Nat.le_refl _⟩ (rs_X9_firstRow_53_e (ls_X9_firstRow_53_1 (rs_X9_firstRow_53_7) 1000) v1 v2 M h)
noncomputable def F_X9_soonest_53 : Nat → List am_V → am_M → am_Rs := fun k as M => if k = 169 then (match as with
  | [.inl a0, .inl a1] => X_X9_has a0 a1 M
  | _ => none) else if k = 172 then (match as with
  | [.inl a0] => X_X9_isRow a0 M
  | _ => none) else if k = 217 then (match as with
  | [.inr (.inr (some 53)), .inl a1] => X_X9_isPlace_53 a1 M
  | _ => none) else if k = 232 then (match as with
  | [.inr (.inr (some 53)), .inl a1] => X_X9_reachIn_53 a1 M
  | _ => none) else if k = 233 then (match as with
  | [.inr (.inr (some 53)), .inl a1, .inl a2] => X_X9_layWays_53 a1 a2 M
  | _ => none) else if k = 234 then (match as with
  | [.inr (.inr (some 53)), .inl a1, .inl a2] => X_X9_firstRow_53 a1 a2 M
  | _ => none) else none
theorem fs_X9_soonest_53 : am_FS SH F_X9_soonest_53 := by
  intro k as M x M' h
  unfold F_X9_soonest_53 at h
  split at h
  · rename_i hk; subst hk
    split at h
    · exact dc_X9_has _ _ _ _ _ h
    · cases h
  split at h
  · rename_i hk; subst hk
    split at h
    · exact dc_X9_isRow _ _ _ _ h
    · cases h
  split at h
  · rename_i hk; subst hk
    split at h
    · exact dc_X9_isPlace_53 _ _ _ _ h
    · cases h
  split at h
  · rename_i hk; subst hk
    split at h
    · exact dc_X9_reachIn_53 _ _ _ _ h
    · cases h
  split at h
  · rename_i hk; subst hk
    split at h
    · exact dc_X9_layWays_53 _ _ _ _ _ h
    · cases h
  split at h
  · rename_i hk; subst hk
    split at h
    · exact dc_X9_firstRow_53 _ _ _ _ _ h
    · cases h
  cases h
noncomputable def XB_X9_soonest_53_6 (c6 : Int → Int → Int → am_M → am_Rs) (c8 : Int → Int → Int → am_M → am_Rs) (c10 : am_M → am_Rs) (v1 v2 v3 : Int) (M : am_M) : am_Rs :=
  if 20 < wI v3 then
   c10 M
  else (X_X9_reachIn_53 v3 M).bind fun z1 =>
  (X_X9_has z1.1 v1 z1.2).bind fun z2 =>
  if wI z2.1 = 0 then
   c6 v1 v2 (v3 + 1) z2.2
  else c8 v1 v2 v3 z2.2
set_option maxRecDepth 100000 in
theorem rs_X9_soonest_53_6 {x : Int} {M' : am_M} {c6 : Int → Int → Int → am_M → am_Rs} {c8 : Int → Int → Int → am_M → am_Rs} {c10 : am_M → am_Rs} (h6 : ∀ w1 w2 w3 M, c6 w1 w2 w3 M = some (x, M') → am_R none 231 bk_X9_soonest 6 (am_wr [56, 1, 1, 1] [w1, w2, w3]) [] SH M (am_rv (am_rk 231) x) SH M') (h8 : ∀ w1 w2 w3 M, c8 w1 w2 w3 M = some (x, M') → am_R none 231 bk_X9_soonest 8 (am_wr [56, 1, 1, 1] [w1, w2, w3]) [] SH M (am_rv (am_rk 231) x) SH M') (h10 : ∀ M, c10 M = some (x, M') → am_R none 231 bk_X9_soonest 10 (am_wr [0, 0, 0, 0] []) [] SH M (am_rv (am_rk 231) x) SH M') (v1 v2 v3 : Int) (M : am_M) (h : XB_X9_soonest_53_6 c6 c8 c10 v1 v2 v3 M = some (x, M')) : am_R none 231 bk_X9_soonest 6 (am_wr [56, 1, 1, 1] [v1, v2, v3]) [] SH M (am_rv (am_rk 231) x) SH M' :=
  vRegion (sc := none) (sh := SH) (F := F_X9_soonest_53) (k := 231) (bs := bk_X9_soonest) (r := (x, M')) (C := fun t lv st M => if t = 6 then vCt [56, 1, 1, 1] (un3 c6) lv st M else if t = 8 then vCt [56, 1, 1, 1] (un3 c8) lv st M else if t = 10 then vCt [0, 0, 0, 0] (un0 c10) lv st M else none) ok_X9_soonest fs_X9_soonest_53 (fun t lv st M h => by
    split at h
    · rename_i e; subst e; exact vCt_s (un3_s h6) h
    split at h
    · rename_i e; subst e; exact vCt_s (un3_s h8) h
    split at h
    · rename_i e; subst e; exact vCt_s (un0_s h10) h
    cases h) 13 6 (am_wr [56, 1, 1, 1] [v1, v2, v3]) [] M h
noncomputable def XB_X9_soonest_53_8 (v1 v2 v3 : Int) (M : am_M) : am_Rs :=
  (X_X9_layWays_53 v3 v1 M).bind fun z1 =>
  (X_X9_firstRow_53 v2 v3 z1.2).bind fun z2 =>
  some (v3, z2.2)
set_option maxRecDepth 100000 in
theorem rs_X9_soonest_53_8 {x : Int} {M' : am_M} (v1 v2 v3 : Int) (M : am_M) (h : XB_X9_soonest_53_8 v1 v2 v3 M = some (x, M')) : am_R none 231 bk_X9_soonest 8 (am_wr [56, 1, 1, 1] [v1, v2, v3]) [] SH M (am_rv (am_rk 231) x) SH M' :=
  vRegion (sc := none) (sh := SH) (F := F_X9_soonest_53) (k := 231) (bs := bk_X9_soonest) (r := (x, M')) (C := fun t lv st M => none) ok_X9_soonest fs_X9_soonest_53 (fun t lv st M h => by
    cases h) 13 8 (am_wr [56, 1, 1, 1] [v1, v2, v3]) [] M h
noncomputable def XB_X9_soonest_53_10 (M : am_M) : am_Rs :=
  some ((-9), M)
set_option maxRecDepth 100000 in
theorem rs_X9_soonest_53_10 {x : Int} {M' : am_M} (M : am_M) (h : XB_X9_soonest_53_10 M = some (x, M')) : am_R none 231 bk_X9_soonest 10 (am_wr [0, 0, 0, 0] []) [] SH M (am_rv (am_rk 231) x) SH M' :=
  vRegion (sc := none) (sh := SH) (F := F_X9_soonest_53) (k := 231) (bs := bk_X9_soonest) (r := (x, M')) (C := fun t lv st M => none) ok_X9_soonest fs_X9_soonest_53 (fun t lv st M h => by
    cases h) 13 10 (am_wr [0, 0, 0, 0] []) [] M h
noncomputable def XB_X9_soonest_53_e (c6 : Int → Int → Int → am_M → am_Rs) (v1 v2 : Int) (M : am_M) : am_Rs :=
  (X_X9_isPlace_53 v1 M).bind fun z1 =>
  if wI z1.1 = 0 then
   some ((-1), z1.2)
  else (X_X9_isRow v2 z1.2).bind fun z2 =>
  if wI z2.1 = 0 then
   some ((-1), z2.2)
  else if wI (z2.2 53 1) = 0 then
   some ((-4), z2.2)
  else c6 v1 v2 0 z2.2
set_option maxRecDepth 100000 in
theorem rs_X9_soonest_53_e {x : Int} {M' : am_M} {c6 : Int → Int → Int → am_M → am_Rs} (h6 : ∀ w1 w2 w3 M, c6 w1 w2 w3 M = some (x, M') → am_R none 231 bk_X9_soonest 6 (am_wr [56, 1, 1, 1] [w1, w2, w3]) [] SH M (am_rv (am_rk 231) x) SH M') (v1 v2 : Int) (M : am_M) (h : XB_X9_soonest_53_e c6 v1 v2 M = some (x, M')) : am_R none 231 bk_X9_soonest 0 (am_ent 4 [.inr (.inr (some 53)), .inl v1, .inl v2]) [] SH M (am_rv (am_rk 231) x) SH M' :=
  vRegion (sc := none) (sh := SH) (F := F_X9_soonest_53) (k := 231) (bs := bk_X9_soonest) (r := (x, M')) (C := fun t lv st M => if t = 6 then vCt [56, 1, 1, 1] (un3 c6) lv st M else none) ok_X9_soonest fs_X9_soonest_53 (fun t lv st M h => by
    split at h
    · rename_i e; subst e; exact vCt_s (un3_s h6) h
    cases h) 13 0 (am_ent 4 [.inr (.inr (some 53)), .inl v1, .inl v2]) [] M h
noncomputable def XL_X9_soonest_53_6 (k8 : Int → Int → Int → am_M → am_Rs) (k10 : am_M → am_Rs) : Nat → Int → Int → Int → am_M → am_Rs
  | 0, _, _, _, _ => none
  | n + 1, v1, v2, v3, M => XB_X9_soonest_53_6 (XL_X9_soonest_53_6 k8 k10 n) k8 k10 v1 v2 v3 M
theorem ls_X9_soonest_53_6 {x : Int} {M' : am_M} {k8 : Int → Int → Int → am_M → am_Rs} {k10 : am_M → am_Rs} (hk8 : ∀ w1 w2 w3 M, k8 w1 w2 w3 M = some (x, M') → am_R none 231 bk_X9_soonest 8 (am_wr [56, 1, 1, 1] [w1, w2, w3]) [] SH M (am_rv (am_rk 231) x) SH M') (hk10 : ∀ M, k10 M = some (x, M') → am_R none 231 bk_X9_soonest 10 (am_wr [0, 0, 0, 0] []) [] SH M (am_rv (am_rk 231) x) SH M') : ∀ (n : Nat) (v1 v2 v3 : Int) (M : am_M), XL_X9_soonest_53_6 k8 k10 n v1 v2 v3 M = some (x, M') → am_R none 231 bk_X9_soonest 6 (am_wr [56, 1, 1, 1] [v1, v2, v3]) [] SH M (am_rv (am_rk 231) x) SH M'
  | 0, v1, v2, v3, M, h => by cases h
  | n + 1, v1, v2, v3, M, h => rs_X9_soonest_53_6 (ls_X9_soonest_53_6 hk8 hk10 n) hk8 hk10 v1 v2 v3 M h
noncomputable def X_X9_soonest_53 (v1 v2 : Int) (M : am_M) : am_Rs := XB_X9_soonest_53_e (XL_X9_soonest_53_6 (XB_X9_soonest_53_8) (XB_X9_soonest_53_10) 1000) v1 v2 M
theorem dc_X9_soonest_53 (v1 v2 : Int) (M M' : am_M) (x : Int) (h : X_X9_soonest_53 v1 v2 M = some (x, M')) : am_Calls 231 [.inr (.inr (some 53)), .inl v1, .inl v2] SH M (am_rv (am_rk 231) x) SH M' :=
  am_enter pn_X9_soonest ml_X9_soonest rfl (Nat.le_of_ble_eq_true rfl) ⟨Nat.le_refl _, Nat.le_refl _⟩ (rs_X9_soonest_53_e (ls_X9_soonest_53_6 (rs_X9_soonest_53_8) (rs_X9_soonest_53_10) 1000) v1 v2 M h)
noncomputable def F_X9_costOf_53 : Nat → List am_V → am_M → am_Rs := fun k as M => if k = 198 then (match as with
  | [.inr (.inr (some 53)), .inl a1, .inl a2, .inl a3, .inl a4] => X_X9_paysTo_53 a1 a2 a3 a4 M
  | _ => none) else if k = 199 then (match as with
  | [.inl a0] => X_X9_isTaxed a0 M
  | _ => none) else if k = 218 then (match as with
  | [.inr (.inr (some 53)), .inl a1, .inl a2, .inl a3] => X_X9_rudeness_53 a1 a2 a3 M
  | _ => none) else if k = 225 then (match as with
  | [.inr (.inr (some 53)), .inl a1, .inl a2, .inl a3] => X_X9_paysOn_53 a1 a2 a3 M
  | _ => none) else none
theorem fs_X9_costOf_53 : am_FS SH F_X9_costOf_53 := by
  intro k as M x M' h
  unfold F_X9_costOf_53 at h
  split at h
  · rename_i hk; subst hk
    split at h
    · exact dc_X9_paysTo_53 _ _ _ _ _ _ _ h
    · cases h
  split at h
  · rename_i hk; subst hk
    split at h
    · exact dc_X9_isTaxed _ _ _ _ h
    · cases h
  split at h
  · rename_i hk; subst hk
    split at h
    · exact dc_X9_rudeness_53 _ _ _ _ _ _ h
    · cases h
  split at h
  · rename_i hk; subst hk
    split at h
    · exact dc_X9_paysOn_53 _ _ _ _ _ _ h
    · cases h
  cases h
noncomputable def XB_X9_costOf_53_5 (c5 : Int → Int → Int → Int → Int → am_M → am_Rs) (c8 : Int → am_M → am_Rs) (v1 v2 v3 v4 v5 : Int) (M : am_M) : am_Rs :=
  if wI v5 < wI (M 53 1) then
   (X_X9_isTaxed v2 M).bind fun z1 =>
   if wI z1.1 = 0 then
    c8 v4 z1.2
   else if 0 ≤ wI (2 + (z1.2 53 23)) ∧ wI (2 + (z1.2 53 23)) < 605 then
   (X_X9_paysTo_53 v5 (z1.2 53 23) (v1 + v3) (z1.2 54 (wI (2 + (z1.2 53 23))).toNat) z1.2).bind fun z2 =>
    c5 v1 v2 v3 (v4 - z2.1) (v5 + 1) z2.2
   else none
  else c8 v4 M
set_option maxRecDepth 100000 in
theorem rs_X9_costOf_53_5 {x : Int} {M' : am_M} {c5 : Int → Int → Int → Int → Int → am_M → am_Rs} {c8 : Int → am_M → am_Rs} (h5 : ∀ w1 w2 w3 w4 w5 M, c5 w1 w2 w3 w4 w5 M = some (x, M') → am_R none 227 bk_X9_costOf 5 (am_wr [56, 1, 1, 1, 1, 1] [w1, w2, w3, w4, w5]) [] SH M (am_rv (am_rk 227) x) SH M') (h8 : ∀ w4 M, c8 w4 M = some (x, M') → am_R none 227 bk_X9_costOf 8 (am_wr [0, 0, 0, 0, 1, 0] [w4]) [] SH M (am_rv (am_rk 227) x) SH M') (v1 v2 v3 v4 v5 : Int) (M : am_M) (h : XB_X9_costOf_53_5 c5 c8 v1 v2 v3 v4 v5 M = some (x, M')) : am_R none 227 bk_X9_costOf 5 (am_wr [56, 1, 1, 1, 1, 1] [v1, v2, v3, v4, v5]) [] SH M (am_rv (am_rk 227) x) SH M' :=
  vRegion (sc := none) (sh := SH) (F := F_X9_costOf_53) (k := 227) (bs := bk_X9_costOf) (r := (x, M')) (C := fun t lv st M => if t = 5 then vCt [56, 1, 1, 1, 1, 1] (un5 c5) lv st M else if t = 8 then vCt [0, 0, 0, 0, 1, 0] (un1 c8) lv st M else none) ok_X9_costOf fs_X9_costOf_53 (fun t lv st M h => by
    split at h
    · rename_i e; subst e; exact vCt_s (un5_s h5) h
    split at h
    · rename_i e; subst e; exact vCt_s (un1_s h8) h
    cases h) 11 5 (am_wr [56, 1, 1, 1, 1, 1] [v1, v2, v3, v4, v5]) [] M h
noncomputable def XB_X9_costOf_53_8 (v4 : Int) (M : am_M) : am_Rs :=
  some (v4, M)
set_option maxRecDepth 100000 in
theorem rs_X9_costOf_53_8 {x : Int} {M' : am_M} (v4 : Int) (M : am_M) (h : XB_X9_costOf_53_8 v4 M = some (x, M')) : am_R none 227 bk_X9_costOf 8 (am_wr [0, 0, 0, 0, 1, 0] [v4]) [] SH M (am_rv (am_rk 227) x) SH M' :=
  vRegion (sc := none) (sh := SH) (F := F_X9_costOf_53) (k := 227) (bs := bk_X9_costOf) (r := (x, M')) (C := fun t lv st M => none) ok_X9_costOf fs_X9_costOf_53 (fun t lv st M h => by
    cases h) 11 8 (am_wr [0, 0, 0, 0, 1, 0] [v4]) [] M h
noncomputable def XB_X9_costOf_53_e (c5 : Int → Int → Int → Int → Int → am_M → am_Rs) (v1 v2 v3 : Int) (M : am_M) : am_Rs :=
  if wI (M 53 22) = 0 then
   (X_X9_rudeness_53 v1 v2 v3 M).bind fun z1 =>
   some (z1.1, z1.2)
  else if wI (M 53 22) = 1 then
   (X_X9_paysOn_53 (M 53 23) v2 (v1 + v3) M).bind fun z1 =>
   some (z1.1, z1.2)
  else c5 v1 v2 v3 0 0 M
set_option maxRecDepth 100000 in
theorem rs_X9_costOf_53_e {x : Int} {M' : am_M} {c5 : Int → Int → Int → Int → Int → am_M → am_Rs} (h5 : ∀ w1 w2 w3 w4 w5 M, c5 w1 w2 w3 w4 w5 M = some (x, M') → am_R none 227 bk_X9_costOf 5 (am_wr [56, 1, 1, 1, 1, 1] [w1, w2, w3, w4, w5]) [] SH M (am_rv (am_rk 227) x) SH M') (v1 v2 v3 : Int) (M : am_M) (h : XB_X9_costOf_53_e c5 v1 v2 v3 M = some (x, M')) : am_R none 227 bk_X9_costOf 0 (am_ent 6 [.inr (.inr (some 53)), .inl v1, .inl v2, .inl v3]) [] SH M (am_rv (am_rk 227) x) SH M' :=
  vRegion (sc := none) (sh := SH) (F := F_X9_costOf_53) (k := 227) (bs := bk_X9_costOf) (r := (x, M')) (C := fun t lv st M => if t = 5 then vCt [56, 1, 1, 1, 1, 1] (un5 c5) lv st M else none) ok_X9_costOf fs_X9_costOf_53 (fun t lv st M h => by
    split at h
    · rename_i e; subst e; exact vCt_s (un5_s h5) h
    cases h) 11 0 (am_ent 6 [.inr (.inr (some 53)), .inl v1, .inl v2, .inl v3]) [] M h
noncomputable def XL_X9_costOf_53_5 (k8 : Int → am_M → am_Rs) : Nat → Int → Int → Int → Int → Int → am_M → am_Rs
  | 0, _, _, _, _, _, _ => none
  | n + 1, v1, v2, v3, v4, v5, M => XB_X9_costOf_53_5 (XL_X9_costOf_53_5 k8 n) k8 v1 v2 v3 v4 v5 M
theorem ls_X9_costOf_53_5 {x : Int} {M' : am_M} {k8 : Int → am_M → am_Rs} (hk8 : ∀ w4 M, k8 w4 M = some (x, M') → am_R none 227 bk_X9_costOf 8 (am_wr [0, 0, 0, 0, 1, 0] [w4]) [] SH M (am_rv (am_rk 227) x) SH M') : ∀ (n : Nat) (v1 v2 v3 v4 v5 : Int) (M : am_M), XL_X9_costOf_53_5 k8 n v1 v2 v3 v4 v5 M = some (x, M') → am_R none 227 bk_X9_costOf 5 (am_wr [56, 1, 1, 1, 1, 1] [v1, v2, v3, v4, v5]) [] SH M (am_rv (am_rk 227) x) SH M'
  | 0, v1, v2, v3, v4, v5, M, h => by cases h
  | n + 1, v1, v2, v3, v4, v5, M, h => rs_X9_costOf_53_5 (ls_X9_costOf_53_5 hk8 n) hk8 v1 v2 v3 v4 v5 M h
noncomputable def X_X9_costOf_53 (v1 v2 v3 : Int) (M : am_M) : am_Rs := XB_X9_costOf_53_e (XL_X9_costOf_53_5 (XB_X9_costOf_53_8) 1000) v1 v2 v3 M
theorem dc_X9_costOf_53 (v1 v2 v3 : Int) (M M' : am_M) (x : Int) (h : X_X9_costOf_53 v1 v2 v3 M = some (x, M')) : am_Calls 227 [.inr (.inr (some 53)), .inl v1, .inl v2, .inl v3] SH M (am_rv (am_rk 227) x) SH M' :=
  am_enter pn_X9_costOf ml_X9_costOf rfl (Nat.le_of_ble_eq_true rfl) ⟨Nat.le_refl _, Nat.le_refl _⟩ (rs_X9_costOf_53_e (ls_X9_costOf_53_5 (rs_X9_costOf_53_8) 1000) v1 v2 v3 M h)
noncomputable def F_X9_valueBy_53 : Nat → List am_V → am_M → am_Rs := fun k as M => if k = 219 then (match as with
  | [.inr (.inr (some 53)), .inl a1, .inl a2, .inl a3] => X_X9_canBe_53 a1 a2 a3 M
  | _ => none) else if k = 227 then (match as with
  | [.inr (.inr (some 53)), .inl a1, .inl a2, .inl a3] => X_X9_costOf_53 a1 a2 a3 M
  | _ => none) else none
theorem fs_X9_valueBy_53 : am_FS SH F_X9_valueBy_53 := by
  intro k as M x M' h
  unfold F_X9_valueBy_53 at h
  split at h
  · rename_i hk; subst hk
    split at h
    · exact dc_X9_canBe_53 _ _ _ _ _ _ h
    · cases h
  split at h
  · rename_i hk; subst hk
    split at h
    · exact dc_X9_costOf_53 _ _ _ _ _ _ h
    · cases h
  cases h
noncomputable def X_X9_valueBy_53 (v1 v2 v3 : Int) (M : am_M) : am_Rs :=
  (X_X9_canBe_53 v2 ((M 54 0) + v1) v3 M).bind fun z1 =>
  if wI z1.1 = 0 then
   some (1048576, z1.2)
  else if 0 ≤ wI (((13 * (v1 + 1)) + v2) + v3) ∧ wI (((13 * (v1 + 1)) + v2) + v3) < 273 then
  if wI (z1.2 64 (wI (((13 * (v1 + 1)) + v2) + v3)).toNat) < 1048576 then
    (X_X9_costOf_53 v2 ((M 54 0) + v1) v3 z1.2).bind fun z2 =>
    some (z2.1 + (z1.2 64 (wI (((13 * (v1 + 1)) + v2) + v3)).toNat), z2.2)
   else some (1048576, z1.2)
  else none
set_option maxRecDepth 100000 in
theorem dc_X9_valueBy_53 (v1 v2 v3 : Int) (M M' : am_M) (x : Int) (h : X_X9_valueBy_53 v1 v2 v3 M = some (x, M')) : am_Calls 228 [.inr (.inr (some 53)), .inl v1, .inl v2, .inl v3] SH M (am_rv (am_rk 228) x) SH M' :=
  vCall (F := F_X9_valueBy_53) (C := fun _ _ _ _ => none) (fu := 8) ok_X9_valueBy pn_X9_valueBy ml_X9_valueBy rfl (Nat.le_of_ble_eq_true rfl) fs_X9_valueBy_53 (fun _ _ _ _ h => by cases h) h
noncomputable def F_X9_layValues_53 : Nat → List am_V → am_M → am_Rs := fun k as M => if k = 228 then (match as with
  | [.inr (.inr (some 53)), .inl a1, .inl a2, .inl a3] => X_X9_valueBy_53 a1 a2 a3 M
  | _ => none) else none
theorem fs_X9_layValues_53 : am_FS SH F_X9_layValues_53 := by
  intro k as M x M' h
  unfold F_X9_layValues_53 at h
  split at h
  · rename_i hk; subst hk
    split at h
    · exact dc_X9_valueBy_53 _ _ _ _ _ _ h
    · cases h
  cases h
noncomputable def XB_X9_layValues_53_1 (c1 : Int → Int → Int → am_M → am_Rs) (c7 : Int → am_M → am_Rs) (v1 v2 v3 : Int) (M : am_M) : am_Rs :=
  if wI (M 53 1) < wI v3 then
   c7 v1 M
  else if wI v2 < 0 then
   if 0 ≤ wI ((13 * v1) + v3) ∧ wI ((13 * v1) + v3) < 273 then
   c1 v1 v2 (v3 + 1) (am_up M 64 (wI ((13 * v1) + v3)).toNat 0)
   else none
  else if wI v3 = wI v2 then
   if 0 ≤ wI ((13 * v1) + v3) ∧ wI ((13 * v1) + v3) < 273 then
   c1 v1 v2 (v3 + 1) (am_up M 64 (wI ((13 * v1) + v3)).toNat 0)
   else none
  else if 0 ≤ wI ((13 * v1) + v3) ∧ wI ((13 * v1) + v3) < 273 then
  c1 v1 v2 (v3 + 1) (am_up M 64 (wI ((13 * v1) + v3)).toNat 1048576)
  else none
set_option maxRecDepth 100000 in
theorem rs_X9_layValues_53_1 {x : Int} {M' : am_M} {c1 : Int → Int → Int → am_M → am_Rs} {c7 : Int → am_M → am_Rs} (h1 : ∀ w1 w2 w3 M, c1 w1 w2 w3 M = some (x, M') → am_R none 229 bk_X9_layValues 1 (am_wr [56, 1, 1, 1, 0, 0, 0, 0] [w1, w2, w3]) [] SH M (am_rv (am_rk 229) x) SH M') (h7 : ∀ w1 M, c7 w1 M = some (x, M') → am_R none 229 bk_X9_layValues 7 (am_wr [56, 1, 0, 0, 0, 0, 0, 0] [w1]) [] SH M (am_rv (am_rk 229) x) SH M') (v1 v2 v3 : Int) (M : am_M) (h : XB_X9_layValues_53_1 c1 c7 v1 v2 v3 M = some (x, M')) : am_R none 229 bk_X9_layValues 1 (am_wr [56, 1, 1, 1, 0, 0, 0, 0] [v1, v2, v3]) [] SH M (am_rv (am_rk 229) x) SH M' :=
  vRegion (sc := none) (sh := SH) (F := F_X9_layValues_53) (k := 229) (bs := bk_X9_layValues) (r := (x, M')) (C := fun t lv st M => if t = 1 then vCt [56, 1, 1, 1, 0, 0, 0, 0] (un3 c1) lv st M else if t = 7 then vCt [56, 1, 0, 0, 0, 0, 0, 0] (un1 c7) lv st M else none) ok_X9_layValues fs_X9_layValues_53 (fun t lv st M h => by
    split at h
    · rename_i e; subst e; exact vCt_s (un3_s h1) h
    split at h
    · rename_i e; subst e; exact vCt_s (un1_s h7) h
    cases h) 22 1 (am_wr [56, 1, 1, 1, 0, 0, 0, 0] [v1, v2, v3]) [] M h
noncomputable def XB_X9_layValues_53_7 (c8 : Int → am_M → am_Rs) (v1 : Int) (M : am_M) : am_Rs :=
  c8 (v1 - 1) M
set_option maxRecDepth 100000 in
theorem rs_X9_layValues_53_7 {x : Int} {M' : am_M} {c8 : Int → am_M → am_Rs} (h8 : ∀ w3 M, c8 w3 M = some (x, M') → am_R none 229 bk_X9_layValues 8 (am_wr [56, 0, 0, 1, 0, 0, 0, 0] [w3]) [] SH M (am_rv (am_rk 229) x) SH M') (v1 : Int) (M : am_M) (h : XB_X9_layValues_53_7 c8 v1 M = some (x, M')) : am_R none 229 bk_X9_layValues 7 (am_wr [56, 1, 0, 0, 0, 0, 0, 0] [v1]) [] SH M (am_rv (am_rk 229) x) SH M' :=
  vRegion (sc := none) (sh := SH) (F := F_X9_layValues_53) (k := 229) (bs := bk_X9_layValues) (r := (x, M')) (C := fun t lv st M => if t = 8 then vCt [56, 0, 0, 1, 0, 0, 0, 0] (un1 c8) lv st M else none) ok_X9_layValues fs_X9_layValues_53 (fun t lv st M h => by
    split at h
    · rename_i e; subst e; exact vCt_s (un1_s h8) h
    cases h) 22 7 (am_wr [56, 1, 0, 0, 0, 0, 0, 0] [v1]) [] M h
noncomputable def XB_X9_layValues_53_8 (c10 : Int → Int → am_M → am_Rs) (c19 : am_M → am_Rs) (v3 : Int) (M : am_M) : am_Rs :=
  if wI v3 < 0 then
   c19 M
  else c10 v3 0 M
set_option maxRecDepth 100000 in
theorem rs_X9_layValues_53_8 {x : Int} {M' : am_M} {c10 : Int → Int → am_M → am_Rs} {c19 : am_M → am_Rs} (h10 : ∀ w3 w4 M, c10 w3 w4 M = some (x, M') → am_R none 229 bk_X9_layValues 10 (am_wr [56, 0, 0, 1, 1, 0, 0, 0] [w3, w4]) [] SH M (am_rv (am_rk 229) x) SH M') (h19 : ∀ M, c19 M = some (x, M') → am_R none 229 bk_X9_layValues 19 (am_wr [0, 0, 0, 0, 0, 0, 0, 0] []) [] SH M (am_rv (am_rk 229) x) SH M') (v3 : Int) (M : am_M) (h : XB_X9_layValues_53_8 c10 c19 v3 M = some (x, M')) : am_R none 229 bk_X9_layValues 8 (am_wr [56, 0, 0, 1, 0, 0, 0, 0] [v3]) [] SH M (am_rv (am_rk 229) x) SH M' :=
  vRegion (sc := none) (sh := SH) (F := F_X9_layValues_53) (k := 229) (bs := bk_X9_layValues) (r := (x, M')) (C := fun t lv st M => if t = 10 then vCt [56, 0, 0, 1, 1, 0, 0, 0] (un2 c10) lv st M else if t = 19 then vCt [0, 0, 0, 0, 0, 0, 0, 0] (un0 c19) lv st M else none) ok_X9_layValues fs_X9_layValues_53 (fun t lv st M h => by
    split at h
    · rename_i e; subst e; exact vCt_s (un2_s h10) h
    split at h
    · rename_i e; subst e; exact vCt_s (un0_s h19) h
    cases h) 22 8 (am_wr [56, 0, 0, 1, 0, 0, 0, 0] [v3]) [] M h
noncomputable def XB_X9_layValues_53_10 (c12 : Int → Int → Int → Int → am_M → am_Rs) (c18 : Int → am_M → am_Rs) (v3 v4 : Int) (M : am_M) : am_Rs :=
  if wI (M 53 1) < wI v4 then
   c18 v3 M
  else c12 v3 v4 1048576 (-1) M
set_option maxRecDepth 100000 in
theorem rs_X9_layValues_53_10 {x : Int} {M' : am_M} {c12 : Int → Int → Int → Int → am_M → am_Rs} {c18 : Int → am_M → am_Rs} (h12 : ∀ w3 w4 w5 w6 M, c12 w3 w4 w5 w6 M = some (x, M') → am_R none 229 bk_X9_layValues 12 (am_wr [56, 0, 0, 1, 1, 1, 1, 0] [w3, w4, w5, w6]) [] SH M (am_rv (am_rk 229) x) SH M') (h18 : ∀ w3 M, c18 w3 M = some (x, M') → am_R none 229 bk_X9_layValues 18 (am_wr [56, 0, 0, 1, 0, 0, 0, 0] [w3]) [] SH M (am_rv (am_rk 229) x) SH M') (v3 v4 : Int) (M : am_M) (h : XB_X9_layValues_53_10 c12 c18 v3 v4 M = some (x, M')) : am_R none 229 bk_X9_layValues 10 (am_wr [56, 0, 0, 1, 1, 0, 0, 0] [v3, v4]) [] SH M (am_rv (am_rk 229) x) SH M' :=
  vRegion (sc := none) (sh := SH) (F := F_X9_layValues_53) (k := 229) (bs := bk_X9_layValues) (r := (x, M')) (C := fun t lv st M => if t = 12 then vCt [56, 0, 0, 1, 1, 1, 1, 0] (un4 c12) lv st M else if t = 18 then vCt [56, 0, 0, 1, 0, 0, 0, 0] (un1 c18) lv st M else none) ok_X9_layValues fs_X9_layValues_53 (fun t lv st M h => by
    split at h
    · rename_i e; subst e; exact vCt_s (un4_s h12) h
    split at h
    · rename_i e; subst e; exact vCt_s (un1_s h18) h
    cases h) 22 10 (am_wr [56, 0, 0, 1, 1, 0, 0, 0] [v3, v4]) [] M h
noncomputable def XB_X9_layValues_53_19 (M : am_M) : am_Rs :=
  some (0, M)
set_option maxRecDepth 100000 in
theorem rs_X9_layValues_53_19 {x : Int} {M' : am_M} (M : am_M) (h : XB_X9_layValues_53_19 M = some (x, M')) : am_R none 229 bk_X9_layValues 19 (am_wr [0, 0, 0, 0, 0, 0, 0, 0] []) [] SH M (am_rv (am_rk 229) x) SH M' :=
  vRegion (sc := none) (sh := SH) (F := F_X9_layValues_53) (k := 229) (bs := bk_X9_layValues) (r := (x, M')) (C := fun t lv st M => none) ok_X9_layValues fs_X9_layValues_53 (fun t lv st M h => by
    cases h) 22 19 (am_wr [0, 0, 0, 0, 0, 0, 0, 0] []) [] M h
noncomputable def XB_X9_layValues_53_12 (c12 : Int → Int → Int → Int → am_M → am_Rs) (c17 : Int → Int → Int → am_M → am_Rs) (v3 v4 v5 v6 : Int) (M : am_M) : am_Rs :=
  if wI v6 < 2 then
   (X_X9_valueBy_53 v3 v4 v6 M).bind fun z1 =>
   if wI z1.1 < wI v5 then
    c12 v3 v4 z1.1 (v6 + 1) z1.2
   else c12 v3 v4 v5 (v6 + 1) z1.2
  else c17 v3 v4 v5 M
set_option maxRecDepth 100000 in
theorem rs_X9_layValues_53_12 {x : Int} {M' : am_M} {c12 : Int → Int → Int → Int → am_M → am_Rs} {c17 : Int → Int → Int → am_M → am_Rs} (h12 : ∀ w3 w4 w5 w6 M, c12 w3 w4 w5 w6 M = some (x, M') → am_R none 229 bk_X9_layValues 12 (am_wr [56, 0, 0, 1, 1, 1, 1, 0] [w3, w4, w5, w6]) [] SH M (am_rv (am_rk 229) x) SH M') (h17 : ∀ w3 w4 w5 M, c17 w3 w4 w5 M = some (x, M') → am_R none 229 bk_X9_layValues 17 (am_wr [56, 0, 0, 1, 1, 1, 0, 0] [w3, w4, w5]) [] SH M (am_rv (am_rk 229) x) SH M') (v3 v4 v5 v6 : Int) (M : am_M) (h : XB_X9_layValues_53_12 c12 c17 v3 v4 v5 v6 M = some (x, M')) : am_R none 229 bk_X9_layValues 12 (am_wr [56, 0, 0, 1, 1, 1, 1, 0] [v3, v4, v5, v6]) [] SH M (am_rv (am_rk 229) x) SH M' :=
  vRegion (sc := none) (sh := SH) (F := F_X9_layValues_53) (k := 229) (bs := bk_X9_layValues) (r := (x, M')) (C := fun t lv st M => if t = 12 then vCt [56, 0, 0, 1, 1, 1, 1, 0] (un4 c12) lv st M else if t = 17 then vCt [56, 0, 0, 1, 1, 1, 0, 0] (un3 c17) lv st M else none) ok_X9_layValues fs_X9_layValues_53 (fun t lv st M h => by
    split at h
    · rename_i e; subst e; exact vCt_s (un4_s h12) h
    split at h
    · rename_i e; subst e; exact vCt_s (un3_s h17) h
    cases h) 22 12 (am_wr [56, 0, 0, 1, 1, 1, 1, 0] [v3, v4, v5, v6]) [] M h
noncomputable def XB_X9_layValues_53_18 (c8 : Int → am_M → am_Rs) (v3 : Int) (M : am_M) : am_Rs :=
  c8 (v3 + (-1)) M
set_option maxRecDepth 100000 in
theorem rs_X9_layValues_53_18 {x : Int} {M' : am_M} {c8 : Int → am_M → am_Rs} (h8 : ∀ w3 M, c8 w3 M = some (x, M') → am_R none 229 bk_X9_layValues 8 (am_wr [56, 0, 0, 1, 0, 0, 0, 0] [w3]) [] SH M (am_rv (am_rk 229) x) SH M') (v3 : Int) (M : am_M) (h : XB_X9_layValues_53_18 c8 v3 M = some (x, M')) : am_R none 229 bk_X9_layValues 18 (am_wr [56, 0, 0, 1, 0, 0, 0, 0] [v3]) [] SH M (am_rv (am_rk 229) x) SH M' :=
  vRegion (sc := none) (sh := SH) (F := F_X9_layValues_53) (k := 229) (bs := bk_X9_layValues) (r := (x, M')) (C := fun t lv st M => if t = 8 then vCt [56, 0, 0, 1, 0, 0, 0, 0] (un1 c8) lv st M else none) ok_X9_layValues fs_X9_layValues_53 (fun t lv st M h => by
    split at h
    · rename_i e; subst e; exact vCt_s (un1_s h8) h
    cases h) 22 18 (am_wr [56, 0, 0, 1, 0, 0, 0, 0] [v3]) [] M h
noncomputable def XB_X9_layValues_53_17 (c10 : Int → Int → am_M → am_Rs) (v3 v4 v5 : Int) (M : am_M) : am_Rs :=
  if 0 ≤ wI ((13 * v3) + v4) ∧ wI ((13 * v3) + v4) < 273 then
  c10 v3 (v4 + 1) (am_up M 64 (wI ((13 * v3) + v4)).toNat v5)
  else none
set_option maxRecDepth 100000 in
theorem rs_X9_layValues_53_17 {x : Int} {M' : am_M} {c10 : Int → Int → am_M → am_Rs} (h10 : ∀ w3 w4 M, c10 w3 w4 M = some (x, M') → am_R none 229 bk_X9_layValues 10 (am_wr [56, 0, 0, 1, 1, 0, 0, 0] [w3, w4]) [] SH M (am_rv (am_rk 229) x) SH M') (v3 v4 v5 : Int) (M : am_M) (h : XB_X9_layValues_53_17 c10 v3 v4 v5 M = some (x, M')) : am_R none 229 bk_X9_layValues 17 (am_wr [56, 0, 0, 1, 1, 1, 0, 0] [v3, v4, v5]) [] SH M (am_rv (am_rk 229) x) SH M' :=
  vRegion (sc := none) (sh := SH) (F := F_X9_layValues_53) (k := 229) (bs := bk_X9_layValues) (r := (x, M')) (C := fun t lv st M => if t = 10 then vCt [56, 0, 0, 1, 1, 0, 0, 0] (un2 c10) lv st M else none) ok_X9_layValues fs_X9_layValues_53 (fun t lv st M h => by
    split at h
    · rename_i e; subst e; exact vCt_s (un2_s h10) h
    cases h) 22 17 (am_wr [56, 0, 0, 1, 1, 1, 0, 0] [v3, v4, v5]) [] M h
noncomputable def XB_X9_layValues_53_e (c1 : Int → Int → Int → am_M → am_Rs) (v1 v2 : Int) (M : am_M) : am_Rs :=
  c1 v1 v2 0 M
set_option maxRecDepth 100000 in
theorem rs_X9_layValues_53_e {x : Int} {M' : am_M} {c1 : Int → Int → Int → am_M → am_Rs} (h1 : ∀ w1 w2 w3 M, c1 w1 w2 w3 M = some (x, M') → am_R none 229 bk_X9_layValues 1 (am_wr [56, 1, 1, 1, 0, 0, 0, 0] [w1, w2, w3]) [] SH M (am_rv (am_rk 229) x) SH M') (v1 v2 : Int) (M : am_M) (h : XB_X9_layValues_53_e c1 v1 v2 M = some (x, M')) : am_R none 229 bk_X9_layValues 0 (am_ent 8 [.inr (.inr (some 53)), .inl v1, .inl v2]) [] SH M (am_rv (am_rk 229) x) SH M' :=
  vRegion (sc := none) (sh := SH) (F := F_X9_layValues_53) (k := 229) (bs := bk_X9_layValues) (r := (x, M')) (C := fun t lv st M => if t = 1 then vCt [56, 1, 1, 1, 0, 0, 0, 0] (un3 c1) lv st M else none) ok_X9_layValues fs_X9_layValues_53 (fun t lv st M h => by
    split at h
    · rename_i e; subst e; exact vCt_s (un3_s h1) h
    cases h) 22 0 (am_ent 8 [.inr (.inr (some 53)), .inl v1, .inl v2]) [] M h
noncomputable def XL_X9_layValues_53_1 (k7 : Int → am_M → am_Rs) : Nat → Int → Int → Int → am_M → am_Rs
  | 0, _, _, _, _ => none
  | n + 1, v1, v2, v3, M => XB_X9_layValues_53_1 (XL_X9_layValues_53_1 k7 n) k7 v1 v2 v3 M
theorem ls_X9_layValues_53_1 {x : Int} {M' : am_M} {k7 : Int → am_M → am_Rs} (hk7 : ∀ w1 M, k7 w1 M = some (x, M') → am_R none 229 bk_X9_layValues 7 (am_wr [56, 1, 0, 0, 0, 0, 0, 0] [w1]) [] SH M (am_rv (am_rk 229) x) SH M') : ∀ (n : Nat) (v1 v2 v3 : Int) (M : am_M), XL_X9_layValues_53_1 k7 n v1 v2 v3 M = some (x, M') → am_R none 229 bk_X9_layValues 1 (am_wr [56, 1, 1, 1, 0, 0, 0, 0] [v1, v2, v3]) [] SH M (am_rv (am_rk 229) x) SH M'
  | 0, v1, v2, v3, M, h => by cases h
  | n + 1, v1, v2, v3, M, h => rs_X9_layValues_53_1 (ls_X9_layValues_53_1 hk7 n) hk7 v1 v2 v3 M h
noncomputable def XL_X9_layValues_53_12 (k17 : Int → Int → Int → am_M → am_Rs) : Nat → Int → Int → Int → Int → am_M → am_Rs
  | 0, _, _, _, _, _ => none
  | n + 1, v3, v4, v5, v6, M => XB_X9_layValues_53_12 (XL_X9_layValues_53_12 k17 n) k17 v3 v4 v5 v6 M
theorem ls_X9_layValues_53_12 {x : Int} {M' : am_M} {k17 : Int → Int → Int → am_M → am_Rs} (hk17 : ∀ w3 w4 w5 M, k17 w3 w4 w5 M = some (x, M') → am_R none 229 bk_X9_layValues 17 (am_wr [56, 0, 0, 1, 1, 1, 0, 0] [w3, w4, w5]) [] SH M (am_rv (am_rk 229) x) SH M') : ∀ (n : Nat) (v3 v4 v5 v6 : Int) (M : am_M), XL_X9_layValues_53_12 k17 n v3 v4 v5 v6 M = some (x, M') → am_R none 229 bk_X9_layValues 12 (am_wr [56, 0, 0, 1, 1, 1, 1, 0] [v3, v4, v5, v6]) [] SH M (am_rv (am_rk 229) x) SH M'
  | 0, v3, v4, v5, v6, M, h => by cases h
  | n + 1, v3, v4, v5, v6, M, h => rs_X9_layValues_53_12 (ls_X9_layValues_53_12 hk17 n) hk17 v3 v4 v5 v6 M h
noncomputable def XL_X9_layValues_53_10 (k18 : Int → am_M → am_Rs) : Nat → Int → Int → am_M → am_Rs
  | 0, _, _, _ => none
  | n + 1, v3, v4, M => XB_X9_layValues_53_10 (XL_X9_layValues_53_12 (XB_X9_layValues_53_17 (XL_X9_layValues_53_10 k18 n)) 1000) k18 v3 v4 M
theorem ls_X9_layValues_53_10 {x : Int} {M' : am_M} {k18 : Int → am_M → am_Rs} (hk18 : ∀ w3 M, k18 w3 M = some (x, M') → am_R none 229 bk_X9_layValues 18 (am_wr [56, 0, 0, 1, 0, 0, 0, 0] [w3]) [] SH M (am_rv (am_rk 229) x) SH M') : ∀ (n : Nat) (v3 v4 : Int) (M : am_M), XL_X9_layValues_53_10 k18 n v3 v4 M = some (x, M') → am_R none 229 bk_X9_layValues 10 (am_wr [56, 0, 0, 1, 1, 0, 0, 0] [v3, v4]) [] SH M (am_rv (am_rk 229) x) SH M'
  | 0, v3, v4, M, h => by cases h
  | n + 1, v3, v4, M, h => rs_X9_layValues_53_10 (ls_X9_layValues_53_12 (rs_X9_layValues_53_17 (ls_X9_layValues_53_10 hk18 n)) 1000) hk18 v3 v4 M h
noncomputable def XL_X9_layValues_53_8 (k19 : am_M → am_Rs) : Nat → Int → am_M → am_Rs
  | 0, _, _ => none
  | n + 1, v3, M => XB_X9_layValues_53_8 (XL_X9_layValues_53_10 (XB_X9_layValues_53_18 (XL_X9_layValues_53_8 k19 n)) 1000) k19 v3 M
theorem ls_X9_layValues_53_8 {x : Int} {M' : am_M} {k19 : am_M → am_Rs} (hk19 : ∀ M, k19 M = some (x, M') → am_R none 229 bk_X9_layValues 19 (am_wr [0, 0, 0, 0, 0, 0, 0, 0] []) [] SH M (am_rv (am_rk 229) x) SH M') : ∀ (n : Nat) (v3 : Int) (M : am_M), XL_X9_layValues_53_8 k19 n v3 M = some (x, M') → am_R none 229 bk_X9_layValues 8 (am_wr [56, 0, 0, 1, 0, 0, 0, 0] [v3]) [] SH M (am_rv (am_rk 229) x) SH M'
  | 0, v3, M, h => by cases h
  | n + 1, v3, M, h => rs_X9_layValues_53_8 (ls_X9_layValues_53_10 (rs_X9_layValues_53_18 (ls_X9_layValues_53_8 hk19 n)) 1000) hk19 v3 M h
noncomputable def X_X9_layValues_53 (v1 v2 : Int) (M : am_M) : am_Rs := XB_X9_layValues_53_e (XL_X9_layValues_53_1 (XB_X9_layValues_53_7 (XL_X9_layValues_53_8 (XB_X9_layValues_53_19) 1000)) 1000) v1 v2 M
theorem dc_X9_layValues_53 (v1 v2 : Int) (M M' : am_M) (x : Int) (h : X_X9_layValues_53 v1 v2 M = some (x, M')) : am_Calls 229 [.inr (.inr (some 53)), .inl v1, .inl v2] SH M (am_rv (am_rk 229) x) SH M' :=
  am_enter pn_X9_layValues ml_X9_layValues rfl (Nat.le_of_ble_eq_true rfl) ⟨Nat.le_refl _, Nat.le_refl _⟩ (rs_X9_layValues_53_e (ls_X9_layValues_53_1 (rs_X9_layValues_53_7 (ls_X9_layValues_53_8 (rs_X9_layValues_53_19) 1000)) 1000) v1 v2 M h)
noncomputable def F_X9_toRow_53 : Nat → List am_V → am_M → am_Rs := fun k as M => if k = 175 then (match as with
  | [.inr (.inr (some 53)), .inl a1, .inl a2] => X_X9_makeRow_53 a1 a2 M
  | _ => none) else if k = 228 then (match as with
  | [.inr (.inr (some 53)), .inl a1, .inl a2, .inl a3] => X_X9_valueBy_53 a1 a2 a3 M
  | _ => none) else none
theorem fs_X9_toRow_53 : am_FS SH F_X9_toRow_53 := by
  intro k as M x M' h
  unfold F_X9_toRow_53 at h
  split at h
  · rename_i hk; subst hk
    split at h
    · exact dc_X9_makeRow_53 _ _ _ _ _ h
    · cases h
  split at h
  · rename_i hk; subst hk
    split at h
    · exact dc_X9_valueBy_53 _ _ _ _ _ _ h
    · cases h
  cases h
noncomputable def XB_X9_toRow_53_1 (c3 : Int → Int → Int → Int → Int → am_M → am_Rs) (c6 : am_M → am_Rs) (v1 v2 v3 v4 : Int) (M : am_M) : am_Rs :=
  if wI v4 < wI v2 then
   c3 v1 v2 v3 v4 (-1) M
  else c6 M
set_option maxRecDepth 100000 in
theorem rs_X9_toRow_53_1 {x : Int} {M' : am_M} {c3 : Int → Int → Int → Int → Int → am_M → am_Rs} {c6 : am_M → am_Rs} (h3 : ∀ w1 w2 w3 w4 w5 M, c3 w1 w2 w3 w4 w5 M = some (x, M') → am_R none 230 bk_X9_toRow 3 (am_wr [56, 1, 1, 1, 1, 1] [w1, w2, w3, w4, w5]) [] SH M (am_rv (am_rk 230) x) SH M') (h6 : ∀ M, c6 M = some (x, M') → am_R none 230 bk_X9_toRow 6 (am_wr [0, 0, 0, 0, 0, 0] []) [] SH M (am_rv (am_rk 230) x) SH M') (v1 v2 v3 v4 : Int) (M : am_M) (h : XB_X9_toRow_53_1 c3 c6 v1 v2 v3 v4 M = some (x, M')) : am_R none 230 bk_X9_toRow 1 (am_wr [56, 1, 1, 1, 1, 0] [v1, v2, v3, v4]) [] SH M (am_rv (am_rk 230) x) SH M' :=
  vRegion (sc := none) (sh := SH) (F := F_X9_toRow_53) (k := 230) (bs := bk_X9_toRow) (r := (x, M')) (C := fun t lv st M => if t = 3 then vCt [56, 1, 1, 1, 1, 1] (un5 c3) lv st M else if t = 6 then vCt [0, 0, 0, 0, 0, 0] (un0 c6) lv st M else none) ok_X9_toRow fs_X9_toRow_53 (fun t lv st M h => by
    split at h
    · rename_i e; subst e; exact vCt_s (un5_s h3) h
    split at h
    · rename_i e; subst e; exact vCt_s (un0_s h6) h
    cases h) 9 1 (am_wr [56, 1, 1, 1, 1, 0] [v1, v2, v3, v4]) [] M h
noncomputable def XB_X9_toRow_53_3 (c3 : Int → Int → Int → Int → Int → am_M → am_Rs) (c5 : Int → Int → Int → Int → Int → am_M → am_Rs) (v1 v2 v3 v4 v5 : Int) (M : am_M) : am_Rs :=
  (X_X9_valueBy_53 v4 v3 v5 M).bind fun z1 =>
  if 0 ≤ wI ((13 * v4) + v3) ∧ wI ((13 * v4) + v3) < 273 then
  if wI z1.1 = wI (z1.2 64 (wI ((13 * v4) + v3)).toNat) then
    c5 v1 v2 v3 v4 v5 z1.2
   else c3 v1 v2 v3 v4 (v5 + 1) z1.2
  else none
set_option maxRecDepth 100000 in
theorem rs_X9_toRow_53_3 {x : Int} {M' : am_M} {c3 : Int → Int → Int → Int → Int → am_M → am_Rs} {c5 : Int → Int → Int → Int → Int → am_M → am_Rs} (h3 : ∀ w1 w2 w3 w4 w5 M, c3 w1 w2 w3 w4 w5 M = some (x, M') → am_R none 230 bk_X9_toRow 3 (am_wr [56, 1, 1, 1, 1, 1] [w1, w2, w3, w4, w5]) [] SH M (am_rv (am_rk 230) x) SH M') (h5 : ∀ w1 w2 w3 w4 w5 M, c5 w1 w2 w3 w4 w5 M = some (x, M') → am_R none 230 bk_X9_toRow 5 (am_wr [56, 1, 1, 1, 1, 1] [w1, w2, w3, w4, w5]) [] SH M (am_rv (am_rk 230) x) SH M') (v1 v2 v3 v4 v5 : Int) (M : am_M) (h : XB_X9_toRow_53_3 c3 c5 v1 v2 v3 v4 v5 M = some (x, M')) : am_R none 230 bk_X9_toRow 3 (am_wr [56, 1, 1, 1, 1, 1] [v1, v2, v3, v4, v5]) [] SH M (am_rv (am_rk 230) x) SH M' :=
  vRegion (sc := none) (sh := SH) (F := F_X9_toRow_53) (k := 230) (bs := bk_X9_toRow) (r := (x, M')) (C := fun t lv st M => if t = 3 then vCt [56, 1, 1, 1, 1, 1] (un5 c3) lv st M else if t = 5 then vCt [56, 1, 1, 1, 1, 1] (un5 c5) lv st M else none) ok_X9_toRow fs_X9_toRow_53 (fun t lv st M h => by
    split at h
    · rename_i e; subst e; exact vCt_s (un5_s h3) h
    split at h
    · rename_i e; subst e; exact vCt_s (un5_s h5) h
    cases h) 9 3 (am_wr [56, 1, 1, 1, 1, 1] [v1, v2, v3, v4, v5]) [] M h
noncomputable def XB_X9_toRow_53_6 (M : am_M) : am_Rs :=
  some (0, M)
set_option maxRecDepth 100000 in
theorem rs_X9_toRow_53_6 {x : Int} {M' : am_M} (M : am_M) (h : XB_X9_toRow_53_6 M = some (x, M')) : am_R none 230 bk_X9_toRow 6 (am_wr [0, 0, 0, 0, 0, 0] []) [] SH M (am_rv (am_rk 230) x) SH M' :=
  vRegion (sc := none) (sh := SH) (F := F_X9_toRow_53) (k := 230) (bs := bk_X9_toRow) (r := (x, M')) (C := fun t lv st M => none) ok_X9_toRow fs_X9_toRow_53 (fun t lv st M h => by
    cases h) 9 6 (am_wr [0, 0, 0, 0, 0, 0] []) [] M h
noncomputable def XB_X9_toRow_53_5 (c1 : Int → Int → Int → Int → am_M → am_Rs) (v1 v2 v3 v4 v5 : Int) (M : am_M) : am_Rs :=
  if 0 ≤ wI ((40 * v1) + v4) ∧ wI ((40 * v1) + v4) < 240 then
  c1 v1 v2 (v3 + v5) (v4 + 1) (am_up M 58 (wI ((40 * v1) + v4)).toNat v5)
  else none
set_option maxRecDepth 100000 in
theorem rs_X9_toRow_53_5 {x : Int} {M' : am_M} {c1 : Int → Int → Int → Int → am_M → am_Rs} (h1 : ∀ w1 w2 w3 w4 M, c1 w1 w2 w3 w4 M = some (x, M') → am_R none 230 bk_X9_toRow 1 (am_wr [56, 1, 1, 1, 1, 0] [w1, w2, w3, w4]) [] SH M (am_rv (am_rk 230) x) SH M') (v1 v2 v3 v4 v5 : Int) (M : am_M) (h : XB_X9_toRow_53_5 c1 v1 v2 v3 v4 v5 M = some (x, M')) : am_R none 230 bk_X9_toRow 5 (am_wr [56, 1, 1, 1, 1, 1] [v1, v2, v3, v4, v5]) [] SH M (am_rv (am_rk 230) x) SH M' :=
  vRegion (sc := none) (sh := SH) (F := F_X9_toRow_53) (k := 230) (bs := bk_X9_toRow) (r := (x, M')) (C := fun t lv st M => if t = 1 then vCt [56, 1, 1, 1, 1, 0] (un4 c1) lv st M else none) ok_X9_toRow fs_X9_toRow_53 (fun t lv st M h => by
    split at h
    · rename_i e; subst e; exact vCt_s (un4_s h1) h
    cases h) 9 5 (am_wr [56, 1, 1, 1, 1, 1] [v1, v2, v3, v4, v5]) [] M h
noncomputable def XB_X9_toRow_53_e (c1 : Int → Int → Int → Int → am_M → am_Rs) (v1 v2 : Int) (M : am_M) : am_Rs :=
  (X_X9_makeRow_53 v1 v2 M).bind fun z1 =>
  c1 v1 v2 (M 54 1) 0 z1.2
set_option maxRecDepth 100000 in
theorem rs_X9_toRow_53_e {x : Int} {M' : am_M} {c1 : Int → Int → Int → Int → am_M → am_Rs} (h1 : ∀ w1 w2 w3 w4 M, c1 w1 w2 w3 w4 M = some (x, M') → am_R none 230 bk_X9_toRow 1 (am_wr [56, 1, 1, 1, 1, 0] [w1, w2, w3, w4]) [] SH M (am_rv (am_rk 230) x) SH M') (v1 v2 : Int) (M : am_M) (h : XB_X9_toRow_53_e c1 v1 v2 M = some (x, M')) : am_R none 230 bk_X9_toRow 0 (am_ent 6 [.inr (.inr (some 53)), .inl v1, .inl v2]) [] SH M (am_rv (am_rk 230) x) SH M' :=
  vRegion (sc := none) (sh := SH) (F := F_X9_toRow_53) (k := 230) (bs := bk_X9_toRow) (r := (x, M')) (C := fun t lv st M => if t = 1 then vCt [56, 1, 1, 1, 1, 0] (un4 c1) lv st M else none) ok_X9_toRow fs_X9_toRow_53 (fun t lv st M h => by
    split at h
    · rename_i e; subst e; exact vCt_s (un4_s h1) h
    cases h) 9 0 (am_ent 6 [.inr (.inr (some 53)), .inl v1, .inl v2]) [] M h
noncomputable def XL_X9_toRow_53_3 (k5 : Int → Int → Int → Int → Int → am_M → am_Rs) : Nat → Int → Int → Int → Int → Int → am_M → am_Rs
  | 0, _, _, _, _, _, _ => none
  | n + 1, v1, v2, v3, v4, v5, M => XB_X9_toRow_53_3 (XL_X9_toRow_53_3 k5 n) k5 v1 v2 v3 v4 v5 M
theorem ls_X9_toRow_53_3 {x : Int} {M' : am_M} {k5 : Int → Int → Int → Int → Int → am_M → am_Rs} (hk5 : ∀ w1 w2 w3 w4 w5 M, k5 w1 w2 w3 w4 w5 M = some (x, M') → am_R none 230 bk_X9_toRow 5 (am_wr [56, 1, 1, 1, 1, 1] [w1, w2, w3, w4, w5]) [] SH M (am_rv (am_rk 230) x) SH M') : ∀ (n : Nat) (v1 v2 v3 v4 v5 : Int) (M : am_M), XL_X9_toRow_53_3 k5 n v1 v2 v3 v4 v5 M = some (x, M') → am_R none 230 bk_X9_toRow 3 (am_wr [56, 1, 1, 1, 1, 1] [v1, v2, v3, v4, v5]) [] SH M (am_rv (am_rk 230) x) SH M'
  | 0, v1, v2, v3, v4, v5, M, h => by cases h
  | n + 1, v1, v2, v3, v4, v5, M, h => rs_X9_toRow_53_3 (ls_X9_toRow_53_3 hk5 n) hk5 v1 v2 v3 v4 v5 M h
noncomputable def XL_X9_toRow_53_1 (k6 : am_M → am_Rs) : Nat → Int → Int → Int → Int → am_M → am_Rs
  | 0, _, _, _, _, _ => none
  | n + 1, v1, v2, v3, v4, M => XB_X9_toRow_53_1 (XL_X9_toRow_53_3 (XB_X9_toRow_53_5 (XL_X9_toRow_53_1 k6 n)) 1000) k6 v1 v2 v3 v4 M
theorem ls_X9_toRow_53_1 {x : Int} {M' : am_M} {k6 : am_M → am_Rs} (hk6 : ∀ M, k6 M = some (x, M') → am_R none 230 bk_X9_toRow 6 (am_wr [0, 0, 0, 0, 0, 0] []) [] SH M (am_rv (am_rk 230) x) SH M') : ∀ (n : Nat) (v1 v2 v3 v4 : Int) (M : am_M), XL_X9_toRow_53_1 k6 n v1 v2 v3 v4 M = some (x, M') → am_R none 230 bk_X9_toRow 1 (am_wr [56, 1, 1, 1, 1, 0] [v1, v2, v3, v4]) [] SH M (am_rv (am_rk 230) x) SH M'
  | 0, v1, v2, v3, v4, M, h => by cases h
  | n + 1, v1, v2, v3, v4, M, h => rs_X9_toRow_53_1 (ls_X9_toRow_53_3 (rs_X9_toRow_53_5 (ls_X9_toRow_53_1 hk6 n)) 1000) hk6 v1 v2 v3 v4 M h
noncomputable def X_X9_toRow_53 (v1 v2 : Int) (M : am_M) : am_Rs := XB_X9_toRow_53_e (XL_X9_toRow_53_1 (XB_X9_toRow_53_6) 1000) v1 v2 M
theorem dc_X9_toRow_53 (v1 v2 : Int) (M M' : am_M) (x : Int) (h : X_X9_toRow_53 v1 v2 M = some (x, M')) : am_Calls 230 [.inr (.inr (some 53)), .inl v1, .inl v2] SH M (am_rv (am_rk 230) x) SH M' :=
  am_enter pn_X9_toRow ml_X9_toRow rfl (Nat.le_of_ble_eq_true rfl) ⟨Nat.le_refl _, Nat.le_refl _⟩ (rs_X9_toRow_53_e (ls_X9_toRow_53_1 (rs_X9_toRow_53_6) 1000) v1 v2 M h)
