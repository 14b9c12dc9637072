noncomputable def F_X9_kinds_53 : Nat → List am_V → am_M → am_Rs := fun k as M => if k = 194 then (match as with
  | [.inr (.inr (some 53)), .inl a1] => X_X9_isStrip_53 a1 M
  | _ => none) else if k = 257 then (match as with
  | [.inr (.inr (some 53)), .inl a1, .inl a2] => X_X9_broughtTo_53 a1 a2 M
  | _ => none) else none
theorem fs_X9_kinds_53 : am_FS SH F_X9_kinds_53 := by
  intro k as M x M' h
  unfold F_X9_kinds_53 at h
  split at h
  · rename_i hk; subst hk
    split at h
    · exact dc_X9_isStrip_53 _ _ _ _ h
    · cases h
  split at h
  · rename_i hk; subst hk
    split at h
    · exact dc_X9_broughtTo_53 _ _ _ _ _ h
    · cases h
  cases h
noncomputable def XB_X9_kinds_53_3 (c3 : Int → Int → Int → Int → am_M → am_Rs) (c8 : Int → Int → Int → am_M → am_Rs) (v1 v2 v3 v4 : Int) (M : am_M) : am_Rs :=
  if wI v4 < 6 then
   if 0 ≤ wI v1 ∧ wI v1 < 12 then
   (X_X9_broughtTo_53 ((am_up M 55 (wI v1).toNat v4) 54 120) ((am_up M 55 (wI v1).toNat v4) 54 0) (am_up M 55 (wI v1).toNat v4)).bind fun z1 =>
    if wI z1.1 = wI (z1.2 54 1) then
     c3 v1 v2 (b_or_ v3 (b_shl_ 1 v4)) (v4 + 1) z1.2
    else c3 v1 v2 (b_or_ v3 0) (v4 + 1) z1.2
   else none
  else c8 v1 v2 v3 M
set_option maxRecDepth 100000 in
theorem rs_X9_kinds_53_3 {x : Int} {M' : am_M} {c3 : Int → Int → Int → Int → am_M → am_Rs} {c8 : Int → Int → Int → am_M → am_Rs} (h3 : ∀ w1 w2 w3 w4 M, c3 w1 w2 w3 w4 M = some (x, M') → am_R none 260 bk_X9_kinds 3 (am_wr [56, 1, 1, 1, 1] [w1, w2, w3, w4]) [] SH M (am_rv (am_rk 260) x) SH M') (h8 : ∀ w1 w2 w3 M, c8 w1 w2 w3 M = some (x, M') → am_R none 260 bk_X9_kinds 8 (am_wr [56, 1, 1, 1, 0] [w1, w2, w3]) [] SH M (am_rv (am_rk 260) x) SH M') (v1 v2 v3 v4 : Int) (M : am_M) (h : XB_X9_kinds_53_3 c3 c8 v1 v2 v3 v4 M = some (x, M')) : am_R none 260 bk_X9_kinds 3 (am_wr [56, 1, 1, 1, 1] [v1, v2, v3, v4]) [] SH M (am_rv (am_rk 260) x) SH M' :=
  vRegion (sc := none) (sh := SH) (F := F_X9_kinds_53) (k := 260) (bs := bk_X9_kinds) (r := (x, M')) (C := fun t lv st M => if t = 3 then vCt [56, 1, 1, 1, 1] (un4 c3) lv st M else if t = 8 then vCt [56, 1, 1, 1, 0] (un3 c8) lv st M else none) ok_X9_kinds fs_X9_kinds_53 (fun t lv st M h => by
    split at h
    · rename_i e; subst e; exact vCt_s (un4_s h3) h
    split at h
    · rename_i e; subst e; exact vCt_s (un3_s h8) h
    cases h) 11 3 (am_wr [56, 1, 1, 1, 1] [v1, v2, v3, v4]) [] M h
noncomputable def XB_X9_kinds_53_8 (v1 v2 v3 : Int) (M : am_M) : am_Rs :=
  if 0 ≤ wI v1 ∧ wI v1 < 12 then
  some (v3, (am_up M 55 (wI v1).toNat v2))
  else none
set_option maxRecDepth 100000 in
theorem rs_X9_kinds_53_8 {x : Int} {M' : am_M} (v1 v2 v3 : Int) (M : am_M) (h : XB_X9_kinds_53_8 v1 v2 v3 M = some (x, M')) : am_R none 260 bk_X9_kinds 8 (am_wr [56, 1, 1, 1, 0] [v1, v2, v3]) [] SH M (am_rv (am_rk 260) x) SH M' :=
  vRegion (sc := none) (sh := SH) (F := F_X9_kinds_53) (k := 260) (bs := bk_X9_kinds) (r := (x, M')) (C := fun t lv st M => none) ok_X9_kinds fs_X9_kinds_53 (fun t lv st M h => by
    cases h) 11 8 (am_wr [56, 1, 1, 1, 0] [v1, v2, v3]) [] M h
noncomputable def XB_X9_kinds_53_e (c3 : Int → Int → Int → Int → am_M → am_Rs) (v1 : Int) (M : am_M) : am_Rs :=
  (X_X9_isStrip_53 v1 M).bind fun z1 =>
  if wI z1.1 = 0 then
   some ((-1), z1.2)
  else if 0 ≤ wI v1 ∧ wI v1 < 12 then
  c3 v1 (z1.2 55 (wI v1).toNat) 0 0 z1.2
  else none
set_option maxRecDepth 100000 in
theorem rs_X9_kinds_53_e {x : Int} {M' : am_M} {c3 : Int → Int → Int → Int → am_M → am_Rs} (h3 : ∀ w1 w2 w3 w4 M, c3 w1 w2 w3 w4 M = some (x, M') → am_R none 260 bk_X9_kinds 3 (am_wr [56, 1, 1, 1, 1] [w1, w2, w3, w4]) [] SH M (am_rv (am_rk 260) x) SH M') (v1 : Int) (M : am_M) (h : XB_X9_kinds_53_e c3 v1 M = some (x, M')) : am_R none 260 bk_X9_kinds 0 (am_ent 5 [.inr (.inr (some 53)), .inl v1]) [] SH M (am_rv (am_rk 260) x) SH M' :=
  vRegion (sc := none) (sh := SH) (F := F_X9_kinds_53) (k := 260) (bs := bk_X9_kinds) (r := (x, M')) (C := fun t lv st M => if t = 3 then vCt [56, 1, 1, 1, 1] (un4 c3) lv st M else none) ok_X9_kinds fs_X9_kinds_53 (fun t lv st M h => by
    split at h
    · rename_i e; subst e; exact vCt_s (un4_s h3) h
    cases h) 11 0 (am_ent 5 [.inr (.inr (some 53)), .inl v1]) [] M h
noncomputable def XL_X9_kinds_53_3 (k8 : Int → Int → Int → am_M → am_Rs) : Nat → Int → Int → Int → Int → am_M → am_Rs
  | 0, _, _, _, _, _ => none
  | n + 1, v1, v2, v3, v4, M => XB_X9_kinds_53_3 (XL_X9_kinds_53_3 k8 n) k8 v1 v2 v3 v4 M
theorem ls_X9_kinds_53_3 {x : Int} {M' : am_M} {k8 : Int → Int → Int → am_M → am_Rs} (hk8 : ∀ w1 w2 w3 M, k8 w1 w2 w3 M = some (x, M') → am_R none 260 bk_X9_kinds 8 (am_wr [56, 1, 1, 1, 0] [w1, w2, w3]) [] SH M (am_rv (am_rk 260) x) SH M') : ∀ (n : Nat) (v1 v2 v3 v4 : Int) (M : am_M), XL_X9_kinds_53_3 k8 n v1 v2 v3 v4 M = some (x, M') → am_R none 260 bk_X9_kinds 3 (am_wr [56, 1, 1, 1, 1] [v1, v2, v3, v4]) [] SH M (am_rv (am_rk 260) x) SH M'
  | 0, v1, v2, v3, v4, M, h => by cases h
  | n + 1, v1, v2, v3, v4, M, h => rs_X9_kinds_53_3 (ls_X9_kinds_53_3 hk8 n) hk8 v1 v2 v3 v4 M h
noncomputable def X_X9_kinds_53 (v1 : Int) (M : am_M) : am_Rs := XB_X9_kinds_53_e (XL_X9_kinds_53_3 (XB_X9_kinds_53_8) 1000) v1 M
theorem dc_X9_kinds_53 (v1 : Int) (M M' : am_M) (x : Int) (h : X_X9_kinds_53 v1 M = some (x, M')) : am_Calls 260 [.inr (.inr (some 53)), .inl v1] SH M (am_rv (am_rk 260) x) SH M' :=
  am_enter pn_X9_kinds ml_X9_kinds rfl (Nat.le_of_ble_eq_true rfl) ⟨Nat.le_refl _, Nat.le_refl _⟩ (rs_X9_kinds_53_e (ls_X9_kinds_53_3 (rs_X9_kinds_53_8) 1000) v1 M h)
noncomputable def F_X9_lots_53 : Nat → List am_V → am_M → am_Rs := fun k as M => if k = 168 then (match as with
  | [.inr (.inl a0), .inr (.inl a2), .inr (.inl a4)] => X_X9_in a0 a2 a4 M
  | _ => none) else if k = 200 then (match as with
  | [.inr (.inr (some 53)), .inl a1, .inl a2, .inl a3] => X_X9_goOn_53 a1 a2 a3 M
  | _ => none) else none
theorem fs_X9_lots_53 : am_FS SH F_X9_lots_53 := by
  intro k as M x M' h
  unfold F_X9_lots_53 at h
  split at h
  · rename_i hk; subst hk
    split at h
    · exact dc_X9_in _ _ _ _ _ _ h
    · cases h
  split at h
  · rename_i hk; subst hk
    split at h
    · exact dc_X9_goOn_53 _ _ _ _ _ _ h
    · cases h
  cases h
noncomputable def XB_X9_lots_53_8 (c8 : Int → Int → Int → am_M → am_Rs) (c10 : am_M → am_Rs) (v1 v3 v5 : Int) (M : am_M) : am_Rs :=
  if wI v5 < wI v1 then
   (X_X9_goOn_53 0 ((wL ((wL (v3 * 48271)).tmod 2147483647)).tmod 4) ((wL ((wL ((wL (v3 * 48271)).tmod 2147483647)).tdiv 16)).tmod 4) M).bind fun z1 =>
   c8 v1 ((wL (v3 * 48271)).tmod 2147483647) (v5 + 1) z1.2
  else c10 M
set_option maxRecDepth 100000 in
theorem rs_X9_lots_53_8 {x : Int} {M' : am_M} {c8 : Int → Int → Int → am_M → am_Rs} {c10 : am_M → am_Rs} (h8 : ∀ w1 w3 w5 M, c8 w1 w3 w5 M = some (x, M') → am_R none 261 bk_X9_lots 8 (am_wr [56, 1, 0, 2, 0, 1] [w1, w3, w5]) [] SH M (am_rv (am_rk 261) x) SH M') (h10 : ∀ M, c10 M = some (x, M') → am_R none 261 bk_X9_lots 10 (am_wr [56, 0, 0, 0, 0, 0] []) [] SH M (am_rv (am_rk 261) x) SH M') (v1 v3 v5 : Int) (M : am_M) (h : XB_X9_lots_53_8 c8 c10 v1 v3 v5 M = some (x, M')) : am_R none 261 bk_X9_lots 8 (am_wr [56, 1, 0, 2, 0, 1] [v1, v3, v5]) [] SH M (am_rv (am_rk 261) x) SH M' :=
  vRegion (sc := none) (sh := SH) (F := F_X9_lots_53) (k := 261) (bs := bk_X9_lots) (r := (x, M')) (C := fun t lv st M => if t = 8 then vCt [56, 1, 0, 2, 0, 1] (un3 c8) lv st M else if t = 10 then vCt [56, 0, 0, 0, 0, 0] (un0 c10) lv st M else none) ok_X9_lots fs_X9_lots_53 (fun t lv st M h => by
    split at h
    · rename_i e; subst e; exact vCt_s (un3_s h8) h
    split at h
    · rename_i e; subst e; exact vCt_s (un0_s h10) h
    cases h) 13 8 (am_wr [56, 1, 0, 2, 0, 1] [v1, v3, v5]) [] M h
noncomputable def XB_X9_lots_53_10 (M : am_M) : am_Rs :=
  some (M 54 1, M)
set_option maxRecDepth 100000 in
theorem rs_X9_lots_53_10 {x : Int} {M' : am_M} (M : am_M) (h : XB_X9_lots_53_10 M = some (x, M')) : am_R none 261 bk_X9_lots 10 (am_wr [56, 0, 0, 0, 0, 0] []) [] SH M (am_rv (am_rk 261) x) SH M' :=
  vRegion (sc := none) (sh := SH) (F := F_X9_lots_53) (k := 261) (bs := bk_X9_lots) (r := (x, M')) (C := fun t lv st M => none) ok_X9_lots fs_X9_lots_53 (fun t lv st M h => by
    cases h) 13 10 (am_wr [56, 0, 0, 0, 0, 0] []) [] M h
noncomputable def XB_X9_lots_53_e (c8 : Int → Int → Int → am_M → am_Rs) (v1 v2 : Int) (M : am_M) : am_Rs :=
  (X_X9_in (wI v1) 1 20 M).bind fun z1 =>
  if wI z1.1 = 0 then
   some ((-1), z1.2)
  else (X_X9_in (wI v2) 1 2147483646 z1.2).bind fun z2 =>
  if wI z2.1 = 0 then
   some ((-1), z2.2)
  else if wI (z2.2 53 1) = 0 then
   some ((-4), z2.2)
  else if 40 < wI ((z2.2 54 0) + v1) then
   some ((-2), z2.2)
  else c8 v1 (wI v2) 0 z2.2
set_option maxRecDepth 100000 in
theorem rs_X9_lots_53_e {x : Int} {M' : am_M} {c8 : Int → Int → Int → am_M → am_Rs} (h8 : ∀ w1 w3 w5 M, c8 w1 w3 w5 M = some (x, M') → am_R none 261 bk_X9_lots 8 (am_wr [56, 1, 0, 2, 0, 1] [w1, w3, w5]) [] SH M (am_rv (am_rk 261) x) SH M') (v1 v2 : Int) (M : am_M) (h : XB_X9_lots_53_e c8 v1 v2 M = some (x, M')) : am_R none 261 bk_X9_lots 0 (am_ent 6 [.inr (.inr (some 53)), .inl v1, .inl v2]) [] SH M (am_rv (am_rk 261) x) SH M' :=
  vRegion (sc := none) (sh := SH) (F := F_X9_lots_53) (k := 261) (bs := bk_X9_lots) (r := (x, M')) (C := fun t lv st M => if t = 8 then vCt [56, 1, 0, 2, 0, 1] (un3 c8) lv st M else none) ok_X9_lots fs_X9_lots_53 (fun t lv st M h => by
    split at h
    · rename_i e; subst e; exact vCt_s (un3_s h8) h
    cases h) 13 0 (am_ent 6 [.inr (.inr (some 53)), .inl v1, .inl v2]) [] M h
noncomputable def XL_X9_lots_53_8 (k10 : am_M → am_Rs) : Nat → Int → Int → Int → am_M → am_Rs
  | 0, _, _, _, _ => none
  | n + 1, v1, v3, v5, M => XB_X9_lots_53_8 (XL_X9_lots_53_8 k10 n) k10 v1 v3 v5 M
theorem ls_X9_lots_53_8 {x : Int} {M' : am_M} {k10 : am_M → am_Rs} (hk10 : ∀ M, k10 M = some (x, M') → am_R none 261 bk_X9_lots 10 (am_wr [56, 0, 0, 0, 0, 0] []) [] SH M (am_rv (am_rk 261) x) SH M') : ∀ (n : Nat) (v1 v3 v5 : Int) (M : am_M), XL_X9_lots_53_8 k10 n v1 v3 v5 M = some (x, M') → am_R none 261 bk_X9_lots 8 (am_wr [56, 1, 0, 2, 0, 1] [v1, v3, v5]) [] SH M (am_rv (am_rk 261) x) SH M'
  | 0, v1, v3, v5, M, h => by cases h
  | n + 1, v1, v3, v5, M, h => rs_X9_lots_53_8 (ls_X9_lots_53_8 hk10 n) hk10 v1 v3 v5 M h
noncomputable def X_X9_lots_53 (v1 v2 : Int) (M : am_M) : am_Rs := XB_X9_lots_53_e (XL_X9_lots_53_8 (XB_X9_lots_53_10) 1000) v1 v2 M
theorem dc_X9_lots_53 (v1 v2 : Int) (M M' : am_M) (x : Int) (h : X_X9_lots_53 v1 v2 M = some (x, M')) : am_Calls 261 [.inr (.inr (some 53)), .inl v1, .inl v2] SH M (am_rv (am_rk 261) x) SH M' :=
  am_enter pn_X9_lots ml_X9_lots rfl (Nat.le_of_ble_eq_true rfl) ⟨Nat.le_refl _, Nat.le_refl _⟩ (rs_X9_lots_53_e (ls_X9_lots_53_8 (rs_X9_lots_53_10) 1000) v1 v2 M h)
noncomputable def X_X9_asked_53 (M : am_M) : am_Rs :=
  some (M 53 8, M)
set_option maxRecDepth 100000 in
theorem dc_X9_asked_53 (M M' : am_M) (x : Int) (h : X_X9_asked_53 M = some (x, M')) : am_Calls 262 [.inr (.inr (some 53))] SH M (am_rv (am_rk 262) x) SH M' :=
  vCall (F := F_none) (C := fun _ _ _ _ => none) (fu := 3) ok_X9_asked pn_X9_asked ml_X9_asked rfl (Nat.le_of_ble_eq_true rfl) fs_none (fun _ _ _ _ h => by cases h) h
noncomputable def X_X9_upper_53 (M : am_M) : am_Rs :=
  some (M 53 9, M)
set_option maxRecDepth 100000 in
theorem dc_X9_upper_53 (M M' : am_M) (x : Int) (h : X_X9_upper_53 M = some (x, M')) : am_Calls 263 [.inr (.inr (some 53))] SH M (am_rv (am_rk 263) x) SH M' :=
  vCall (F := F_none) (C := fun _ _ _ _ => none) (fu := 3) ok_X9_upper pn_X9_upper ml_X9_upper rfl (Nat.le_of_ble_eq_true rfl) fs_none (fun _ _ _ _ h => by cases h) h
noncomputable def X_X9_lower_53 (M : am_M) : am_Rs :=
  some (M 53 10, M)
set_option maxRecDepth 100000 in
theorem dc_X9_lower_53 (M M' : am_M) (x : Int) (h : X_X9_lower_53 M = some (x, M')) : am_Calls 264 [.inr (.inr (some 53))] SH M (am_rv (am_rk 264) x) SH M' :=
  vCall (F := F_none) (C := fun _ _ _ _ => none) (fu := 3) ok_X9_lower pn_X9_lower ml_X9_lower rfl (Nat.le_of_ble_eq_true rfl) fs_none (fun _ _ _ _ h => by cases h) h
noncomputable def XB_X9_thereOf_53_1 (c1 : Int → Int → Int → am_M → am_Rs) (c16 : Int → am_M → am_Rs) (v1 v2 v3 : Int) (M : am_M) : am_Rs :=
  if wI v3 < 6 then
   if wI v1 = 6 then
    if 0 ≤ wI v3 ∧ wI v3 < 6 then
    if wI (M 57 (wI v3).toNat) < 0 then
      c1 v1 (v2 + 0) (v3 + 1) M
     else c1 v1 (v2 + 1) (v3 + 1) M
    else none
   else if wI v1 = 7 then
    if wI v3 < 4 then
     if 0 ≤ wI v3 ∧ wI v3 < 4 then
     if wI (M 59 (wI v3).toNat) < 0 then
       c1 v1 (v2 + 0) (v3 + 1) M
      else c1 v1 (v2 + 1) (v3 + 1) M
     else none
    else c1 v1 (v2 + 0) (v3 + 1) M
   else if wI v3 < 3 then
    if 0 ≤ wI ((121 * (1 + v3)) + 0) ∧ wI ((121 * (1 + v3)) + 0) < 605 then
    if wI (M 54 (wI ((121 * (1 + v3)) + 0)).toNat) < 0 then
      c1 v1 (v2 + 0) (v3 + 1) M
     else c1 v1 (v2 + 1) (v3 + 1) M
    else none
   else c1 v1 (v2 + 0) (v3 + 1) M
  else c16 v2 M
set_option maxRecDepth 100000 in
theorem rs_X9_thereOf_53_1 {x : Int} {M' : am_M} {c1 : Int → Int → Int → am_M → am_Rs} {c16 : Int → am_M → am_Rs} (h1 : ∀ w1 w2 w3 M, c1 w1 w2 w3 M = some (x, M') → am_R none 266 bk_X9_thereOf 1 (am_wr [56, 1, 1, 1] [w1, w2, w3]) [] SH M (am_rv (am_rk 266) x) SH M') (h16 : ∀ w2 M, c16 w2 M = some (x, M') → am_R none 266 bk_X9_thereOf 16 (am_wr [0, 0, 1, 0] [w2]) [] SH M (am_rv (am_rk 266) x) SH M') (v1 v2 v3 : Int) (M : am_M) (h : XB_X9_thereOf_53_1 c1 c16 v1 v2 v3 M = some (x, M')) : am_R none 266 bk_X9_thereOf 1 (am_wr [56, 1, 1, 1] [v1, v2, v3]) [] SH M (am_rv (am_rk 266) x) SH M' :=
  vRegion (sc := none) (sh := SH) (F := F_none) (k := 266) (bs := bk_X9_thereOf) (r := (x, M')) (C := fun t lv st M => if t = 1 then vCt [56, 1, 1, 1] (un3 c1) lv st M else if t = 16 then vCt [0, 0, 1, 0] (un1 c16) lv st M else none) ok_X9_thereOf fs_none (fun t lv st M h => by
    split at h
    · rename_i e; subst e; exact vCt_s (un3_s h1) h
    split at h
    · rename_i e; subst e; exact vCt_s (un1_s h16) h
    cases h) 19 1 (am_wr [56, 1, 1, 1] [v1, v2, v3]) [] M h
noncomputable def XB_X9_thereOf_53_16 (v2 : Int) (M : am_M) : am_Rs :=
  some (v2, M)
set_option maxRecDepth 100000 in
theorem rs_X9_thereOf_53_16 {x : Int} {M' : am_M} (v2 : Int) (M : am_M) (h : XB_X9_thereOf_53_16 v2 M = some (x, M')) : am_R none 266 bk_X9_thereOf 16 (am_wr [0, 0, 1, 0] [v2]) [] SH M (am_rv (am_rk 266) x) SH M' :=
  vRegion (sc := none) (sh := SH) (F := F_none) (k := 266) (bs := bk_X9_thereOf) (r := (x, M')) (C := fun t lv st M => none) ok_X9_thereOf fs_none (fun t lv st M h => by
    cases h) 19 16 (am_wr [0, 0, 1, 0] [v2]) [] M h
noncomputable def XB_X9_thereOf_53_e (c1 : Int → Int → Int → am_M → am_Rs) (v1 : Int) (M : am_M) : am_Rs :=
  c1 v1 0 0 M
set_option maxRecDepth 100000 in
theorem rs_X9_thereOf_53_e {x : Int} {M' : am_M} {c1 : Int → Int → Int → am_M → am_Rs} (h1 : ∀ w1 w2 w3 M, c1 w1 w2 w3 M = some (x, M') → am_R none 266 bk_X9_thereOf 1 (am_wr [56, 1, 1, 1] [w1, w2, w3]) [] SH M (am_rv (am_rk 266) x) SH M') (v1 : Int) (M : am_M) (h : XB_X9_thereOf_53_e c1 v1 M = some (x, M')) : am_R none 266 bk_X9_thereOf 0 (am_ent 4 [.inr (.inr (some 53)), .inl v1]) [] SH M (am_rv (am_rk 266) x) SH M' :=
  vRegion (sc := none) (sh := SH) (F := F_none) (k := 266) (bs := bk_X9_thereOf) (r := (x, M')) (C := fun t lv st M => if t = 1 then vCt [56, 1, 1, 1] (un3 c1) lv st M else none) ok_X9_thereOf fs_none (fun t lv st M h => by
    split at h
    · rename_i e; subst e; exact vCt_s (un3_s h1) h
    cases h) 19 0 (am_ent 4 [.inr (.inr (some 53)), .inl v1]) [] M h
noncomputable def XL_X9_thereOf_53_1 (k16 : Int → am_M → am_Rs) : Nat → Int → Int → Int → am_M → am_Rs
  | 0, _, _, _, _ => none
  | n + 1, v1, v2, v3, M => XB_X9_thereOf_53_1 (XL_X9_thereOf_53_1 k16 n) k16 v1 v2 v3 M
theorem ls_X9_thereOf_53_1 {x : Int} {M' : am_M} {k16 : Int → am_M → am_Rs} (hk16 : ∀ w2 M, k16 w2 M = some (x, M') → am_R none 266 bk_X9_thereOf 16 (am_wr [0, 0, 1, 0] [w2]) [] SH M (am_rv (am_rk 266) x) SH M') : ∀ (n : Nat) (v1 v2 v3 : Int) (M : am_M), XL_X9_thereOf_53_1 k16 n v1 v2 v3 M = some (x, M') → am_R none 266 bk_X9_thereOf 1 (am_wr [56, 1, 1, 1] [v1, v2, v3]) [] SH M (am_rv (am_rk 266) x) SH M'
  | 0, v1, v2, v3, M, h => by cases h
  | n + 1, v1, v2, v3, M, h => rs_X9_thereOf_53_1 (ls_X9_thereOf_53_1 hk16 n) hk16 v1 v2 v3 M h
noncomputable def X_X9_thereOf_53 (v1 : Int) (M : am_M) : am_Rs := XB_X9_thereOf_53_e (XL_X9_thereOf_53_1 (XB_X9_thereOf_53_16) 1000) v1 M
theorem dc_X9_thereOf_53 (v1 : Int) (M M' : am_M) (x : Int) (h : X_X9_thereOf_53 v1 M = some (x, M')) : am_Calls 266 [.inr (.inr (some 53)), .inl v1] SH M (am_rv (am_rk 266) x) SH M' :=
  am_enter pn_X9_thereOf ml_X9_thereOf rfl (Nat.le_of_ble_eq_true rfl) ⟨Nat.le_refl _, Nat.le_refl _⟩ (rs_X9_thereOf_53_e (ls_X9_thereOf_53_1 (rs_X9_thereOf_53_16) 1000) v1 M h)
noncomputable def F_X9_kindMany_53 : Nat → List am_V → am_M → am_Rs := fun k as M => if k = 203 then (match as with
  | [.inr (.inr (some 53)), .inl a1, .inl a2] => X_X9_isOf_53 a1 a2 M
  | _ => none) else none
theorem fs_X9_kindMany_53 : am_FS SH F_X9_kindMany_53 := by
  intro k as M x M' h
  unfold F_X9_kindMany_53 at h
  split at h
  · rename_i hk; subst hk
    split at h
    · exact dc_X9_isOf_53 _ _ _ _ _ h
    · cases h
  cases h
noncomputable def XB_X9_kindMany_53_1 (c1 : Int → Int → Int → am_M → am_Rs) (c6 : Int → am_M → am_Rs) (v1 v2 v3 : Int) (M : am_M) : am_Rs :=
  if wI v3 < wI (M 53 1) then
   (X_X9_isOf_53 v3 v1 M).bind fun z1 =>
   if wI z1.1 = 0 then
    c1 v1 (v2 + 0) (v3 + 1) z1.2
   else c1 v1 (v2 + 1) (v3 + 1) z1.2
  else c6 v2 M
set_option maxRecDepth 100000 in
theorem rs_X9_kindMany_53_1 {x : Int} {M' : am_M} {c1 : Int → Int → Int → am_M → am_Rs} {c6 : Int → am_M → am_Rs} (h1 : ∀ w1 w2 w3 M, c1 w1 w2 w3 M = some (x, M') → am_R none 265 bk_X9_kindMany 1 (am_wr [56, 1, 1, 1] [w1, w2, w3]) [] SH M (am_rv (am_rk 265) x) SH M') (h6 : ∀ w2 M, c6 w2 M = some (x, M') → am_R none 265 bk_X9_kindMany 6 (am_wr [0, 0, 1, 0] [w2]) [] SH M (am_rv (am_rk 265) x) SH M') (v1 v2 v3 : Int) (M : am_M) (h : XB_X9_kindMany_53_1 c1 c6 v1 v2 v3 M = some (x, M')) : am_R none 265 bk_X9_kindMany 1 (am_wr [56, 1, 1, 1] [v1, v2, v3]) [] SH M (am_rv (am_rk 265) x) SH M' :=
  vRegion (sc := none) (sh := SH) (F := F_X9_kindMany_53) (k := 265) (bs := bk_X9_kindMany) (r := (x, M')) (C := fun t lv st M => if t = 1 then vCt [56, 1, 1, 1] (un3 c1) lv st M else if t = 6 then vCt [0, 0, 1, 0] (un1 c6) lv st M else none) ok_X9_kindMany fs_X9_kindMany_53 (fun t lv st M h => by
    split at h
    · rename_i e; subst e; exact vCt_s (un3_s h1) h
    split at h
    · rename_i e; subst e; exact vCt_s (un1_s h6) h
    cases h) 9 1 (am_wr [56, 1, 1, 1] [v1, v2, v3]) [] M h
noncomputable def XB_X9_kindMany_53_6 (v2 : Int) (M : am_M) : am_Rs :=
  some (v2, M)
set_option maxRecDepth 100000 in
theorem rs_X9_kindMany_53_6 {x : Int} {M' : am_M} (v2 : Int) (M : am_M) (h : XB_X9_kindMany_53_6 v2 M = some (x, M')) : am_R none 265 bk_X9_kindMany 6 (am_wr [0, 0, 1, 0] [v2]) [] SH M (am_rv (am_rk 265) x) SH M' :=
  vRegion (sc := none) (sh := SH) (F := F_X9_kindMany_53) (k := 265) (bs := bk_X9_kindMany) (r := (x, M')) (C := fun t lv st M => none) ok_X9_kindMany fs_X9_kindMany_53 (fun t lv st M h => by
    cases h) 9 6 (am_wr [0, 0, 1, 0] [v2]) [] M h
noncomputable def XB_X9_kindMany_53_e (c1 : Int → Int → Int → am_M → am_Rs) (v1 : Int) (M : am_M) : am_Rs :=
  c1 v1 0 0 M
set_option maxRecDepth 100000 in
theorem rs_X9_kindMany_53_e {x : Int} {M' : am_M} {c1 : Int → Int → Int → am_M → am_Rs} (h1 : ∀ w1 w2 w3 M, c1 w1 w2 w3 M = some (x, M') → am_R none 265 bk_X9_kindMany 1 (am_wr [56, 1, 1, 1] [w1, w2, w3]) [] SH M (am_rv (am_rk 265) x) SH M') (v1 : Int) (M : am_M) (h : XB_X9_kindMany_53_e c1 v1 M = some (x, M')) : am_R none 265 bk_X9_kindMany 0 (am_ent 4 [.inr (.inr (some 53)), .inl v1]) [] SH M (am_rv (am_rk 265) x) SH M' :=
  vRegion (sc := none) (sh := SH) (F := F_X9_kindMany_53) (k := 265) (bs := bk_X9_kindMany) (r := (x, M')) (C := fun t lv st M => if t = 1 then vCt [56, 1, 1, 1] (un3 c1) lv st M else none) ok_X9_kindMany fs_X9_kindMany_53 (fun t lv st M h => by
    split at h
    · rename_i e; subst e; exact vCt_s (un3_s h1) h
    cases h) 9 0 (am_ent 4 [.inr (.inr (some 53)), .inl v1]) [] M h
noncomputable def XL_X9_kindMany_53_1 (k6 : Int → am_M → am_Rs) : Nat → Int → Int → Int → am_M → am_Rs
  | 0, _, _, _, _ => none
  | n + 1, v1, v2, v3, M => XB_X9_kindMany_53_1 (XL_X9_kindMany_53_1 k6 n) k6 v1 v2 v3 M
theorem ls_X9_kindMany_53_1 {x : Int} {M' : am_M} {k6 : Int → am_M → am_Rs} (hk6 : ∀ w2 M, k6 w2 M = some (x, M') → am_R none 265 bk_X9_kindMany 6 (am_wr [0, 0, 1, 0] [w2]) [] SH M (am_rv (am_rk 265) x) SH M') : ∀ (n : Nat) (v1 v2 v3 : Int) (M : am_M), XL_X9_kindMany_53_1 k6 n v1 v2 v3 M = some (x, M') → am_R none 265 bk_X9_kindMany 1 (am_wr [56, 1, 1, 1] [v1, v2, v3]) [] SH M (am_rv (am_rk 265) x) SH M'
  | 0, v1, v2, v3, M, h => by cases h
  | n + 1, v1, v2, v3, M, h => rs_X9_kindMany_53_1 (ls_X9_kindMany_53_1 hk6 n) hk6 v1 v2 v3 M h
noncomputable def X_X9_kindMany_53 (v1 : Int) (M : am_M) : am_Rs := XB_X9_kindMany_53_e (XL_X9_kindMany_53_1 (XB_X9_kindMany_53_6) 1000) v1 M
theorem dc_X9_kindMany_53 (v1 : Int) (M M' : am_M) (x : Int) (h : X_X9_kindMany_53 v1 M = some (x, M')) : am_Calls 265 [.inr (.inr (some 53)), .inl v1] SH M (am_rv (am_rk 265) x) SH M' :=
  am_enter pn_X9_kindMany ml_X9_kindMany rfl (Nat.le_of_ble_eq_true rfl) ⟨Nat.le_refl _, Nat.le_refl _⟩ (rs_X9_kindMany_53_e (ls_X9_kindMany_53_1 (rs_X9_kindMany_53_6) 1000) v1 M h)
noncomputable def F_X9_countOf_53 : Nat → List am_V → am_M → am_Rs := fun k as M => if k = 265 then (match as with
  | [.inr (.inr (some 53)), .inl a1] => X_X9_kindMany_53 a1 M
  | _ => none) else if k = 266 then (match as with
  | [.inr (.inr (some 53)), .inl a1] => X_X9_thereOf_53 a1 M
  | _ => none) else none
theorem fs_X9_countOf_53 : am_FS SH F_X9_countOf_53 := by
  intro k as M x M' h
  unfold F_X9_countOf_53 at h
  split at h
  · rename_i hk; subst hk
    split at h
    · exact dc_X9_kindMany_53 _ _ _ _ h
    · cases h
  split at h
  · rename_i hk; subst hk
    split at h
    · exact dc_X9_thereOf_53 _ _ _ _ h
    · cases h
  cases h
noncomputable def X_X9_countOf_53 (v1 : Int) (M : am_M) : am_Rs :=
  if wI v1 = 0 then
   some (M 53 1, M)
  else if wI v1 = 0 + 1 then
   some (M 54 0, M)
  else if wI v1 = 0 + 1 + 1 then
   if 0 ≤ wI ((2 + v1) - 2) ∧ wI ((2 + v1) - 2) < 605 then
   some (M 54 (wI ((2 + v1) - 2)).toNat, M)
   else none
  else if wI v1 = 0 + 1 + 1 + 1 then
   if 0 ≤ wI ((2 + v1) - 2) ∧ wI ((2 + v1) - 2) < 605 then
   some (M 54 (wI ((2 + v1) - 2)).toNat, M)
   else none
  else if wI v1 = 0 + 1 + 1 + 1 + 1 then
   (X_X9_kindMany_53 1 M).bind fun z1 =>
   some (z1.1, z1.2)
  else if wI v1 = 0 + 1 + 1 + 1 + 1 + 1 then
   (X_X9_kindMany_53 2 M).bind fun z1 =>
   some (z1.1, z1.2)
  else (X_X9_thereOf_53 v1 M).bind fun z1 =>
  some (z1.1, z1.2)
set_option maxRecDepth 100000 in
theorem dc_X9_countOf_53 (v1 : Int) (M M' : am_M) (x : Int) (h : X_X9_countOf_53 v1 M = some (x, M')) : am_Calls 267 [.inr (.inr (some 53)), .inl v1] SH M (am_rv (am_rk 267) x) SH M' :=
  vCall (F := F_X9_countOf_53) (C := fun _ _ _ _ => none) (fu := 9) ok_X9_countOf pn_X9_countOf ml_X9_countOf rfl (Nat.le_of_ble_eq_true rfl) fs_X9_countOf_53 (fun _ _ _ _ h => by cases h) h
noncomputable def F_X9_count_53 : Nat → List am_V → am_M → am_Rs := fun k as M => if k = 168 then (match as with
  | [.inr (.inl a0), .inr (.inl a2), .inr (.inl a4)] => X_X9_in a0 a2 a4 M
  | _ => none) else if k = 267 then (match as with
  | [.inr (.inr (some 53)), .inl a1] => X_X9_countOf_53 a1 M
  | _ => none) else none
theorem fs_X9_count_53 : am_FS SH F_X9_count_53 := by
  intro k as M x M' h
  unfold F_X9_count_53 at h
  split at h
  · rename_i hk; subst hk
    split at h
    · exact dc_X9_in _ _ _ _ _ _ h
    · cases h
  split at h
  · rename_i hk; subst hk
    split at h
    · exact dc_X9_countOf_53 _ _ _ _ h
    · cases h
  cases h
noncomputable def X_X9_count_53 (v1 : Int) (M : am_M) : am_Rs :=
  (X_X9_in (wI v1) 0 8 M).bind fun z1 =>
  if wI z1.1 = 0 then
   some ((-1), z1.2)
  else (X_X9_countOf_53 v1 z1.2).bind fun z2 =>
  some (z2.1, z2.2)
set_option maxRecDepth 100000 in
theorem dc_X9_count_53 (v1 : Int) (M M' : am_M) (x : Int) (h : X_X9_count_53 v1 M = some (x, M')) : am_Calls 268 [.inr (.inr (some 53)), .inl v1] SH M (am_rv (am_rk 268) x) SH M' :=
  vCall (F := F_X9_count_53) (C := fun _ _ _ _ => none) (fu := 6) ok_X9_count pn_X9_count ml_X9_count rfl (Nat.le_of_ble_eq_true rfl) fs_X9_count_53 (fun _ _ _ _ h => by cases h) h
noncomputable def X_X9_finding_53 (M : am_M) : am_Rs :=
  some (M 53 11, M)
set_option maxRecDepth 100000 in
theorem dc_X9_finding_53 (M M' : am_M) (x : Int) (h : X_X9_finding_53 M = some (x, M')) : am_Calls 269 [.inr (.inr (some 53))] SH M (am_rv (am_rk 269) x) SH M' :=
  vCall (F := F_none) (C := fun _ _ _ _ => none) (fu := 3) ok_X9_finding pn_X9_finding ml_X9_finding rfl (Nat.le_of_ble_eq_true rfl) fs_none (fun _ _ _ _ h => by cases h) h
noncomputable def F_X9_findings_53 : Nat → List am_V → am_M → am_Rs := fun k as M => if k = 168 then (match as with
  | [.inr (.inl a0), .inr (.inl a2), .inr (.inl a4)] => X_X9_in a0 a2 a4 M
  | _ => none) else none
theorem fs_X9_findings_53 : am_FS SH F_X9_findings_53 := by
  intro k as M x M' h
  unfold F_X9_findings_53 at h
  split at h
  · rename_i hk; subst hk
    split at h
    · exact dc_X9_in _ _ _ _ _ _ h
    · cases h
  cases h
noncomputable def X_X9_findings_53 (v1 : Int) (M : am_M) : am_Rs :=
  (X_X9_in (wI v1) 1 5 M).bind fun z1 =>
  if wI z1.1 = 0 then
   some ((-1), z1.2)
  else if 0 ≤ wI v1 ∧ wI v1 < 6 then
  some (z1.2 61 (wI v1).toNat, z1.2)
  else none
set_option maxRecDepth 100000 in
theorem dc_X9_findings_53 (v1 : Int) (M M' : am_M) (x : Int) (h : X_X9_findings_53 v1 M = some (x, M')) : am_Calls 270 [.inr (.inr (some 53)), .inl v1] SH M (am_rv (am_rk 270) x) SH M' :=
  vCall (F := F_X9_findings_53) (C := fun _ _ _ _ => none) (fu := 6) ok_X9_findings pn_X9_findings ml_X9_findings rfl (Nat.le_of_ble_eq_true rfl) fs_X9_findings_53 (fun _ _ _ _ h => by cases h) h
noncomputable def F_X9_digest_53 : Nat → List am_V → am_M → am_Rs := fun k as M => if k = 202 then (match as with
  | [.inr (.inr (some 53)), .inl a1, .inl a2] => X_X9_toldOf_53 a1 a2 M
  | _ => none) else if k = 267 then (match as with
  | [.inr (.inr (some 53)), .inl a1] => X_X9_countOf_53 a1 M
  | _ => none) else none
theorem fs_X9_digest_53 : am_FS SH F_X9_digest_53 := by
  intro k as M x M' h
  unfold F_X9_digest_53 at h
  split at h
  · rename_i hk; subst hk
    split at h
    · exact dc_X9_toldOf_53 _ _ _ _ _ h
    · cases h
  split at h
  · rename_i hk; subst hk
    split at h
    · exact dc_X9_countOf_53 _ _ _ _ h
    · cases h
  cases h
noncomputable def XB_X9_digest_53_1 (c1 : Int → Int → am_M → am_Rs) (c3 : Int → am_M → am_Rs) (v1 v3 : Int) (M : am_M) : am_Rs :=
  if wI v3 < 9 then
   (X_X9_countOf_53 v3 M).bind fun z1 =>
   c1 ((31 * v1) + (wI z1.1)) (v3 + 1) z1.2
  else c3 v1 M
set_option maxRecDepth 100000 in
theorem rs_X9_digest_53_1 {x : Int} {M' : am_M} {c1 : Int → Int → am_M → am_Rs} {c3 : Int → am_M → am_Rs} (h1 : ∀ w1 w3 M, c1 w1 w3 M = some (x, M') → am_R none 271 bk_X9_digest 1 (am_wr [56, 2, 0, 1, 0] [w1, w3]) [] SH M (am_rv (am_rk 271) x) SH M') (h3 : ∀ w1 M, c3 w1 M = some (x, M') → am_R none 271 bk_X9_digest 3 (am_wr [56, 2, 0, 0, 0] [w1]) [] SH M (am_rv (am_rk 271) x) SH M') (v1 v3 : Int) (M : am_M) (h : XB_X9_digest_53_1 c1 c3 v1 v3 M = some (x, M')) : am_R none 271 bk_X9_digest 1 (am_wr [56, 2, 0, 1, 0] [v1, v3]) [] SH M (am_rv (am_rk 271) x) SH M' :=
  vRegion (sc := none) (sh := SH) (F := F_X9_digest_53) (k := 271) (bs := bk_X9_digest) (r := (x, M')) (C := fun t lv st M => if t = 1 then vCt [56, 2, 0, 1, 0] (un2 c1) lv st M else if t = 3 then vCt [56, 2, 0, 0, 0] (un1 c3) lv st M else none) ok_X9_digest fs_X9_digest_53 (fun t lv st M h => by
    split at h
    · rename_i e; subst e; exact vCt_s (un2_s h1) h
    split at h
    · rename_i e; subst e; exact vCt_s (un1_s h3) h
    cases h) 24 1 (am_wr [56, 2, 0, 1, 0] [v1, v3]) [] M h
noncomputable def XB_X9_digest_53_3 (c4 : Int → Int → am_M → am_Rs) (v1 : Int) (M : am_M) : am_Rs :=
  c4 ((31 * v1) + (wI (M 54 1))) 0 M
set_option maxRecDepth 100000 in
theorem rs_X9_digest_53_3 {x : Int} {M' : am_M} {c4 : Int → Int → am_M → am_Rs} (h4 : ∀ w1 w3 M, c4 w1 w3 M = some (x, M') → am_R none 271 bk_X9_digest 4 (am_wr [56, 2, 0, 1, 0] [w1, w3]) [] SH M (am_rv (am_rk 271) x) SH M') (v1 : Int) (M : am_M) (h : XB_X9_digest_53_3 c4 v1 M = some (x, M')) : am_R none 271 bk_X9_digest 3 (am_wr [56, 2, 0, 0, 0] [v1]) [] SH M (am_rv (am_rk 271) x) SH M' :=
  vRegion (sc := none) (sh := SH) (F := F_X9_digest_53) (k := 271) (bs := bk_X9_digest) (r := (x, M')) (C := fun t lv st M => if t = 4 then vCt [56, 2, 0, 1, 0] (un2 c4) lv st M else none) ok_X9_digest fs_X9_digest_53 (fun t lv st M h => by
    split at h
    · rename_i e; subst e; exact vCt_s (un2_s h4) h
    cases h) 24 3 (am_wr [56, 2, 0, 0, 0] [v1]) [] M h
noncomputable def XB_X9_digest_53_4 (c4 : Int → Int → am_M → am_Rs) (c6 : Int → am_M → am_Rs) (v1 v3 : Int) (M : am_M) : am_Rs :=
  if wI v3 < wI (6 * (M 53 1)) then
   (X_X9_toldOf_53 ((wI v3).tdiv 6) ((wI v3).tmod 6) M).bind fun z1 =>
   c4 ((31 * v1) + (wI z1.1)) (v3 + 1) z1.2
  else c6 v1 M
set_option maxRecDepth 100000 in
theorem rs_X9_digest_53_4 {x : Int} {M' : am_M} {c4 : Int → Int → am_M → am_Rs} {c6 : Int → am_M → am_Rs} (h4 : ∀ w1 w3 M, c4 w1 w3 M = some (x, M') → am_R none 271 bk_X9_digest 4 (am_wr [56, 2, 0, 1, 0] [w1, w3]) [] SH M (am_rv (am_rk 271) x) SH M') (h6 : ∀ w1 M, c6 w1 M = some (x, M') → am_R none 271 bk_X9_digest 6 (am_wr [56, 2, 0, 0, 0] [w1]) [] SH M (am_rv (am_rk 271) x) SH M') (v1 v3 : Int) (M : am_M) (h : XB_X9_digest_53_4 c4 c6 v1 v3 M = some (x, M')) : am_R none 271 bk_X9_digest 4 (am_wr [56, 2, 0, 1, 0] [v1, v3]) [] SH M (am_rv (am_rk 271) x) SH M' :=
  vRegion (sc := none) (sh := SH) (F := F_X9_digest_53) (k := 271) (bs := bk_X9_digest) (r := (x, M')) (C := fun t lv st M => if t = 4 then vCt [56, 2, 0, 1, 0] (un2 c4) lv st M else if t = 6 then vCt [56, 2, 0, 0, 0] (un1 c6) lv st M else none) ok_X9_digest fs_X9_digest_53 (fun t lv st M h => by
    split at h
    · rename_i e; subst e; exact vCt_s (un2_s h4) h
    split at h
    · rename_i e; subst e; exact vCt_s (un1_s h6) h
    cases h) 24 4 (am_wr [56, 2, 0, 1, 0] [v1, v3]) [] M h
noncomputable def XB_X9_digest_53_6 (c7 : Int → Int → am_M → am_Rs) (v1 : Int) (M : am_M) : am_Rs :=
  c7 v1 1 M
set_option maxRecDepth 100000 in
theorem rs_X9_digest_53_6 {x : Int} {M' : am_M} {c7 : Int → Int → am_M → am_Rs} (h7 : ∀ w1 w3 M, c7 w1 w3 M = some (x, M') → am_R none 271 bk_X9_digest 7 (am_wr [56, 2, 0, 1, 0] [w1, w3]) [] SH M (am_rv (am_rk 271) x) SH M') (v1 : Int) (M : am_M) (h : XB_X9_digest_53_6 c7 v1 M = some (x, M')) : am_R none 271 bk_X9_digest 6 (am_wr [56, 2, 0, 0, 0] [v1]) [] SH M (am_rv (am_rk 271) x) SH M' :=
  vRegion (sc := none) (sh := SH) (F := F_X9_digest_53) (k := 271) (bs := bk_X9_digest) (r := (x, M')) (C := fun t lv st M => if t = 7 then vCt [56, 2, 0, 1, 0] (un2 c7) lv st M else none) ok_X9_digest fs_X9_digest_53 (fun t lv st M h => by
    split at h
    · rename_i e; subst e; exact vCt_s (un2_s h7) h
    cases h) 24 6 (am_wr [56, 2, 0, 0, 0] [v1]) [] M h
noncomputable def XB_X9_digest_53_7 (c7 : Int → Int → am_M → am_Rs) (c9 : Int → am_M → am_Rs) (v1 v3 : Int) (M : am_M) : am_Rs :=
  if wI v3 < 4 then
   if 0 ≤ wI ((121 * v3) + 0) ∧ wI ((121 * v3) + 0) < 605 then
   c7 ((31 * v1) + (wI (M 54 (wI ((121 * v3) + 0)).toNat))) (v3 + 1) M
   else none
  else c9 v1 M
set_option maxRecDepth 100000 in
theorem rs_X9_digest_53_7 {x : Int} {M' : am_M} {c7 : Int → Int → am_M → am_Rs} {c9 : Int → am_M → am_Rs} (h7 : ∀ w1 w3 M, c7 w1 w3 M = some (x, M') → am_R none 271 bk_X9_digest 7 (am_wr [56, 2, 0, 1, 0] [w1, w3]) [] SH M (am_rv (am_rk 271) x) SH M') (h9 : ∀ w1 M, c9 w1 M = some (x, M') → am_R none 271 bk_X9_digest 9 (am_wr [56, 2, 0, 0, 0] [w1]) [] SH M (am_rv (am_rk 271) x) SH M') (v1 v3 : Int) (M : am_M) (h : XB_X9_digest_53_7 c7 c9 v1 v3 M = some (x, M')) : am_R none 271 bk_X9_digest 7 (am_wr [56, 2, 0, 1, 0] [v1, v3]) [] SH M (am_rv (am_rk 271) x) SH M' :=
  vRegion (sc := none) (sh := SH) (F := F_X9_digest_53) (k := 271) (bs := bk_X9_digest) (r := (x, M')) (C := fun t lv st M => if t = 7 then vCt [56, 2, 0, 1, 0] (un2 c7) lv st M else if t = 9 then vCt [56, 2, 0, 0, 0] (un1 c9) lv st M else none) ok_X9_digest fs_X9_digest_53 (fun t lv st M h => by
    split at h
    · rename_i e; subst e; exact vCt_s (un2_s h7) h
    split at h
    · rename_i e; subst e; exact vCt_s (un1_s h9) h
    cases h) 24 7 (am_wr [56, 2, 0, 1, 0] [v1, v3]) [] M h
noncomputable def XB_X9_digest_53_9 (c10 : Int → Int → am_M → am_Rs) (v1 : Int) (M : am_M) : am_Rs :=
  c10 v1 0 M
set_option maxRecDepth 100000 in
theorem rs_X9_digest_53_9 {x : Int} {M' : am_M} {c10 : Int → Int → am_M → am_Rs} (h10 : ∀ w1 w3 M, c10 w1 w3 M = some (x, M') → am_R none 271 bk_X9_digest 10 (am_wr [56, 2, 0, 1, 0] [w1, w3]) [] SH M (am_rv (am_rk 271) x) SH M') (v1 : Int) (M : am_M) (h : XB_X9_digest_53_9 c10 v1 M = some (x, M')) : am_R none 271 bk_X9_digest 9 (am_wr [56, 2, 0, 0, 0] [v1]) [] SH M (am_rv (am_rk 271) x) SH M' :=
  vRegion (sc := none) (sh := SH) (F := F_X9_digest_53) (k := 271) (bs := bk_X9_digest) (r := (x, M')) (C := fun t lv st M => if t = 10 then vCt [56, 2, 0, 1, 0] (un2 c10) lv st M else none) ok_X9_digest fs_X9_digest_53 (fun t lv st M h => by
    split at h
    · rename_i e; subst e; exact vCt_s (un2_s h10) h
    cases h) 24 9 (am_wr [56, 2, 0, 0, 0] [v1]) [] M h
noncomputable def XB_X9_digest_53_10 (c12 : Int → Int → Int → am_M → am_Rs) (c15 : Int → am_M → am_Rs) (v1 v3 : Int) (M : am_M) : am_Rs :=
  if wI v3 < 6 then
   if 0 ≤ wI v3 ∧ wI v3 < 6 then
   c12 ((31 * v1) + (wI (M 57 (wI v3).toNat))) v3 0 M
   else none
  else c15 v1 M
set_option maxRecDepth 100000 in
theorem rs_X9_digest_53_10 {x : Int} {M' : am_M} {c12 : Int → Int → Int → am_M → am_Rs} {c15 : Int → am_M → am_Rs} (h12 : ∀ w1 w3 w4 M, c12 w1 w3 w4 M = some (x, M') → am_R none 271 bk_X9_digest 12 (am_wr [56, 2, 0, 1, 1] [w1, w3, w4]) [] SH M (am_rv (am_rk 271) x) SH M') (h15 : ∀ w1 M, c15 w1 M = some (x, M') → am_R none 271 bk_X9_digest 15 (am_wr [56, 2, 0, 0, 0] [w1]) [] SH M (am_rv (am_rk 271) x) SH M') (v1 v3 : Int) (M : am_M) (h : XB_X9_digest_53_10 c12 c15 v1 v3 M = some (x, M')) : am_R none 271 bk_X9_digest 10 (am_wr [56, 2, 0, 1, 0] [v1, v3]) [] SH M (am_rv (am_rk 271) x) SH M' :=
  vRegion (sc := none) (sh := SH) (F := F_X9_digest_53) (k := 271) (bs := bk_X9_digest) (r := (x, M')) (C := fun t lv st M => if t = 12 then vCt [56, 2, 0, 1, 1] (un3 c12) lv st M else if t = 15 then vCt [56, 2, 0, 0, 0] (un1 c15) lv st M else none) ok_X9_digest fs_X9_digest_53 (fun t lv st M h => by
    split at h
    · rename_i e; subst e; exact vCt_s (un3_s h12) h
    split at h
    · rename_i e; subst e; exact vCt_s (un1_s h15) h
    cases h) 24 10 (am_wr [56, 2, 0, 1, 0] [v1, v3]) [] M h
noncomputable def XB_X9_digest_53_12 (c12 : Int → Int → Int → am_M → am_Rs) (c14 : Int → Int → am_M → am_Rs) (v1 v3 v4 : Int) (M : am_M) : am_Rs :=
  if 0 ≤ wI v3 ∧ wI v3 < 6 then
  if wI v4 < wI (M 57 (wI v3).toNat) then
    if 0 ≤ wI ((40 * v3) + v4) ∧ wI ((40 * v3) + v4) < 240 then
    c12 ((31 * v1) + (wI (M 58 (wI ((40 * v3) + v4)).toNat))) v3 (v4 + 1) M
    else none
   else c14 v1 v3 M
  else none
set_option maxRecDepth 100000 in
theorem rs_X9_digest_53_12 {x : Int} {M' : am_M} {c12 : Int → Int → Int → am_M → am_Rs} {c14 : Int → Int → am_M → am_Rs} (h12 : ∀ w1 w3 w4 M, c12 w1 w3 w4 M = some (x, M') → am_R none 271 bk_X9_digest 12 (am_wr [56, 2, 0, 1, 1] [w1, w3, w4]) [] SH M (am_rv (am_rk 271) x) SH M') (h14 : ∀ w1 w3 M, c14 w1 w3 M = some (x, M') → am_R none 271 bk_X9_digest 14 (am_wr [56, 2, 0, 1, 0] [w1, w3]) [] SH M (am_rv (am_rk 271) x) SH M') (v1 v3 v4 : Int) (M : am_M) (h : XB_X9_digest_53_12 c12 c14 v1 v3 v4 M = some (x, M')) : am_R none 271 bk_X9_digest 12 (am_wr [56, 2, 0, 1, 1] [v1, v3, v4]) [] SH M (am_rv (am_rk 271) x) SH M' :=
  vRegion (sc := none) (sh := SH) (F := F_X9_digest_53) (k := 271) (bs := bk_X9_digest) (r := (x, M')) (C := fun t lv st M => if t = 12 then vCt [56, 2, 0, 1, 1] (un3 c12) lv st M else if t = 14 then vCt [56, 2, 0, 1, 0] (un2 c14) lv st M else none) ok_X9_digest fs_X9_digest_53 (fun t lv st M h => by
    split at h
    · rename_i e; subst e; exact vCt_s (un3_s h12) h
    split at h
    · rename_i e; subst e; exact vCt_s (un2_s h14) h
    cases h) 24 12 (am_wr [56, 2, 0, 1, 1] [v1, v3, v4]) [] M h
noncomputable def XB_X9_digest_53_15 (c16 : Int → Int → am_M → am_Rs) (v1 : Int) (M : am_M) : am_Rs :=
  c16 v1 0 M
set_option maxRecDepth 100000 in
theorem rs_X9_digest_53_15 {x : Int} {M' : am_M} {c16 : Int → Int → am_M → am_Rs} (h16 : ∀ w1 w3 M, c16 w1 w3 M = some (x, M') → am_R none 271 bk_X9_digest 16 (am_wr [56, 2, 0, 1, 0] [w1, w3]) [] SH M (am_rv (am_rk 271) x) SH M') (v1 : Int) (M : am_M) (h : XB_X9_digest_53_15 c16 v1 M = some (x, M')) : am_R none 271 bk_X9_digest 15 (am_wr [56, 2, 0, 0, 0] [v1]) [] SH M (am_rv (am_rk 271) x) SH M' :=
  vRegion (sc := none) (sh := SH) (F := F_X9_digest_53) (k := 271) (bs := bk_X9_digest) (r := (x, M')) (C := fun t lv st M => if t = 16 then vCt [56, 2, 0, 1, 0] (un2 c16) lv st M else none) ok_X9_digest fs_X9_digest_53 (fun t lv st M h => by
    split at h
    · rename_i e; subst e; exact vCt_s (un2_s h16) h
    cases h) 24 15 (am_wr [56, 2, 0, 0, 0] [v1]) [] M h
noncomputable def XB_X9_digest_53_14 (c10 : Int → Int → am_M → am_Rs) (v1 v3 : Int) (M : am_M) : am_Rs :=
  c10 v1 (v3 + 1) M
set_option maxRecDepth 100000 in
theorem rs_X9_digest_53_14 {x : Int} {M' : am_M} {c10 : Int → Int → am_M → am_Rs} (h10 : ∀ w1 w3 M, c10 w1 w3 M = some (x, M') → am_R none 271 bk_X9_digest 10 (am_wr [56, 2, 0, 1, 0] [w1, w3]) [] SH M (am_rv (am_rk 271) x) SH M') (v1 v3 : Int) (M : am_M) (h : XB_X9_digest_53_14 c10 v1 v3 M = some (x, M')) : am_R none 271 bk_X9_digest 14 (am_wr [56, 2, 0, 1, 0] [v1, v3]) [] SH M (am_rv (am_rk 271) x) SH M' :=
  vRegion (sc := none) (sh := SH) (F := F_X9_digest_53) (k := 271) (bs := bk_X9_digest) (r := (x, M')) (C := fun t lv st M => if t = 10 then vCt [56, 2, 0, 1, 0] (un2 c10) lv st M else none) ok_X9_digest fs_X9_digest_53 (fun t lv st M h => by
    split at h
    · rename_i e; subst e; exact vCt_s (un2_s h10) h
    cases h) 24 14 (am_wr [56, 2, 0, 1, 0] [v1, v3]) [] M h
noncomputable def XB_X9_digest_53_16 (c18 : Int → Int → Int → am_M → am_Rs) (c21 : Int → am_M → am_Rs) (v1 v3 : Int) (M : am_M) : am_Rs :=
  if wI v3 < 4 then
   if 0 ≤ wI v3 ∧ wI v3 < 4 then
   c18 ((31 * v1) + (wI (M 59 (wI v3).toNat))) v3 0 M
   else none
  else c21 v1 M
set_option maxRecDepth 100000 in
theorem rs_X9_digest_53_16 {x : Int} {M' : am_M} {c18 : Int → Int → Int → am_M → am_Rs} {c21 : Int → am_M → am_Rs} (h18 : ∀ w1 w3 w4 M, c18 w1 w3 w4 M = some (x, M') → am_R none 271 bk_X9_digest 18 (am_wr [56, 2, 0, 1, 1] [w1, w3, w4]) [] SH M (am_rv (am_rk 271) x) SH M') (h21 : ∀ w1 M, c21 w1 M = some (x, M') → am_R none 271 bk_X9_digest 21 (am_wr [0, 2, 0, 0, 0] [w1]) [] SH M (am_rv (am_rk 271) x) SH M') (v1 v3 : Int) (M : am_M) (h : XB_X9_digest_53_16 c18 c21 v1 v3 M = some (x, M')) : am_R none 271 bk_X9_digest 16 (am_wr [56, 2, 0, 1, 0] [v1, v3]) [] SH M (am_rv (am_rk 271) x) SH M' :=
  vRegion (sc := none) (sh := SH) (F := F_X9_digest_53) (k := 271) (bs := bk_X9_digest) (r := (x, M')) (C := fun t lv st M => if t = 18 then vCt [56, 2, 0, 1, 1] (un3 c18) lv st M else if t = 21 then vCt [0, 2, 0, 0, 0] (un1 c21) lv st M else none) ok_X9_digest fs_X9_digest_53 (fun t lv st M h => by
    split at h
    · rename_i e; subst e; exact vCt_s (un3_s h18) h
    split at h
    · rename_i e; subst e; exact vCt_s (un1_s h21) h
    cases h) 24 16 (am_wr [56, 2, 0, 1, 0] [v1, v3]) [] M h
noncomputable def XB_X9_digest_53_18 (c18 : Int → Int → Int → am_M → am_Rs) (c20 : Int → Int → am_M → am_Rs) (v1 v3 v4 : Int) (M : am_M) : am_Rs :=
  if 0 ≤ wI v3 ∧ wI v3 < 4 then
  if wI v4 < wI (M 59 (wI v3).toNat) then
    if 0 ≤ wI ((60 * v3) + v4) ∧ wI ((60 * v3) + v4) < 240 then
    c18 ((31 * v1) + (wI (M 60 (wI ((60 * v3) + v4)).toNat))) v3 (v4 + 1) M
    else none
   else c20 v1 v3 M
  else none
set_option maxRecDepth 100000 in
theorem rs_X9_digest_53_18 {x : Int} {M' : am_M} {c18 : Int → Int → Int → am_M → am_Rs} {c20 : Int → Int → am_M → am_Rs} (h18 : ∀ w1 w3 w4 M, c18 w1 w3 w4 M = some (x, M') → am_R none 271 bk_X9_digest 18 (am_wr [56, 2, 0, 1, 1] [w1, w3, w4]) [] SH M (am_rv (am_rk 271) x) SH M') (h20 : ∀ w1 w3 M, c20 w1 w3 M = some (x, M') → am_R none 271 bk_X9_digest 20 (am_wr [56, 2, 0, 1, 0] [w1, w3]) [] SH M (am_rv (am_rk 271) x) SH M') (v1 v3 v4 : Int) (M : am_M) (h : XB_X9_digest_53_18 c18 c20 v1 v3 v4 M = some (x, M')) : am_R none 271 bk_X9_digest 18 (am_wr [56, 2, 0, 1, 1] [v1, v3, v4]) [] SH M (am_rv (am_rk 271) x) SH M' :=
  vRegion (sc := none) (sh := SH) (F := F_X9_digest_53) (k := 271) (bs := bk_X9_digest) (r := (x, M')) (C := fun t lv st M => if t = 18 then vCt [56, 2, 0, 1, 1] (un3 c18) lv st M else if t = 20 then vCt [56, 2, 0, 1, 0] (un2 c20) lv st M else none) ok_X9_digest fs_X9_digest_53 (fun t lv st M h => by
    split at h
    · rename_i e; subst e; exact vCt_s (un3_s h18) h
    split at h
    · rename_i e; subst e; exact vCt_s (un2_s h20) h
    cases h) 24 18 (am_wr [56, 2, 0, 1, 1] [v1, v3, v4]) [] M h
noncomputable def XB_X9_digest_53_21 (v1 : Int) (M : am_M) : am_Rs :=
  some (v1, M)
set_option maxRecDepth 100000 in
theorem rs_X9_digest_53_21 {x : Int} {M' : am_M} (v1 : Int) (M : am_M) (h : XB_X9_digest_53_21 v1 M = some (x, M')) : am_R none 271 bk_X9_digest 21 (am_wr [0, 2, 0, 0, 0] [v1]) [] SH M (am_rv (am_rk 271) x) SH M' :=
  vRegion (sc := none) (sh := SH) (F := F_X9_digest_53) (k := 271) (bs := bk_X9_digest) (r := (x, M')) (C := fun t lv st M => none) ok_X9_digest fs_X9_digest_53 (fun t lv st M h => by
    cases h) 24 21 (am_wr [0, 2, 0, 0, 0] [v1]) [] M h
noncomputable def XB_X9_digest_53_20 (c16 : Int → Int → am_M → am_Rs) (v1 v3 : Int) (M : am_M) : am_Rs :=
  c16 v1 (v3 + 1) M
set_option maxRecDepth 100000 in
theorem rs_X9_digest_53_20 {x : Int} {M' : am_M} {c16 : Int → Int → am_M → am_Rs} (h16 : ∀ w1 w3 M, c16 w1 w3 M = some (x, M') → am_R none 271 bk_X9_digest 16 (am_wr [56, 2, 0, 1, 0] [w1, w3]) [] SH M (am_rv (am_rk 271) x) SH M') (v1 v3 : Int) (M : am_M) (h : XB_X9_digest_53_20 c16 v1 v3 M = some (x, M')) : am_R none 271 bk_X9_digest 20 (am_wr [56, 2, 0, 1, 0] [v1, v3]) [] SH M (am_rv (am_rk 271) x) SH M' :=
  vRegion (sc := none) (sh := SH) (F := F_X9_digest_53) (k := 271) (bs := bk_X9_digest) (r := (x, M')) (C := fun t lv st M => if t = 16 then vCt [56, 2, 0, 1, 0] (un2 c16) lv st M else none) ok_X9_digest fs_X9_digest_53 (fun t lv st M h => by
    split at h
    · rename_i e; subst e; exact vCt_s (un2_s h16) h
    cases h) 24 20 (am_wr [56, 2, 0, 1, 0] [v1, v3]) [] M h
noncomputable def XB_X9_digest_53_e (c1 : Int → Int → am_M → am_Rs) (M : am_M) : am_Rs :=
  c1 17 0 M
set_option maxRecDepth 100000 in
theorem rs_X9_digest_53_e {x : Int} {M' : am_M} {c1 : Int → Int → am_M → am_Rs} (h1 : ∀ w1 w3 M, c1 w1 w3 M = some (x, M') → am_R none 271 bk_X9_digest 1 (am_wr [56, 2, 0, 1, 0] [w1, w3]) [] SH M (am_rv (am_rk 271) x) SH M') (M : am_M) (h : XB_X9_digest_53_e c1 M = some (x, M')) : am_R none 271 bk_X9_digest 0 (am_ent 5 [.inr (.inr (some 53))]) [] SH M (am_rv (am_rk 271) x) SH M' :=
  vRegion (sc := none) (sh := SH) (F := F_X9_digest_53) (k := 271) (bs := bk_X9_digest) (r := (x, M')) (C := fun t lv st M => if t = 1 then vCt [56, 2, 0, 1, 0] (un2 c1) lv st M else none) ok_X9_digest fs_X9_digest_53 (fun t lv st M h => by
    split at h
    · rename_i e; subst e; exact vCt_s (un2_s h1) h
    cases h) 24 0 (am_ent 5 [.inr (.inr (some 53))]) [] M h
noncomputable def XL_X9_digest_53_1 (k3 : Int → am_M → am_Rs) : Nat → Int → Int → am_M → am_Rs
  | 0, _, _, _ => none
  | n + 1, v1, v3, M => XB_X9_digest_53_1 (XL_X9_digest_53_1 k3 n) k3 v1 v3 M
theorem ls_X9_digest_53_1 {x : Int} {M' : am_M} {k3 : Int → am_M → am_Rs} (hk3 : ∀ w1 M, k3 w1 M = some (x, M') → am_R none 271 bk_X9_digest 3 (am_wr [56, 2, 0, 0, 0] [w1]) [] SH M (am_rv (am_rk 271) x) SH M') : ∀ (n : Nat) (v1 v3 : Int) (M : am_M), XL_X9_digest_53_1 k3 n v1 v3 M = some (x, M') → am_R none 271 bk_X9_digest 1 (am_wr [56, 2, 0, 1, 0] [v1, v3]) [] SH M (am_rv (am_rk 271) x) SH M'
  | 0, v1, v3, M, h => by cases h
  | n + 1, v1, v3, M, h => rs_X9_digest_53_1 (ls_X9_digest_53_1 hk3 n) hk3 v1 v3 M h
noncomputable def XL_X9_digest_53_4 (k6 : Int → am_M → am_Rs) : Nat → Int → Int → am_M → am_Rs
  | 0, _, _, _ => none
  | n + 1, v1, v3, M => XB_X9_digest_53_4 (XL_X9_digest_53_4 k6 n) k6 v1 v3 M
theorem ls_X9_digest_53_4 {x : Int} {M' : am_M} {k6 : Int → am_M → am_Rs} (hk6 : ∀ w1 M, k6 w1 M = some (x, M') → am_R none 271 bk_X9_digest 6 (am_wr [56, 2, 0, 0, 0] [w1]) [] SH M (am_rv (am_rk 271) x) SH M') : ∀ (n : Nat) (v1 v3 : Int) (M : am_M), XL_X9_digest_53_4 k6 n v1 v3 M = some (x, M') → am_R none 271 bk_X9_digest 4 (am_wr [56, 2, 0, 1, 0] [v1, v3]) [] SH M (am_rv (am_rk 271) x) SH M'
  | 0, v1, v3, M, h => by cases h
  | n + 1, v1, v3, M, h => rs_X9_digest_53_4 (ls_X9_digest_53_4 hk6 n) hk6 v1 v3 M h
noncomputable def XL_X9_digest_53_7 (k9 : Int → am_M → am_Rs) : Nat → Int → Int → am_M → am_Rs
  | 0, _, _, _ => none
  | n + 1, v1, v3, M => XB_X9_digest_53_7 (XL_X9_digest_53_7 k9 n) k9 v1 v3 M
theorem ls_X9_digest_53_7 {x : Int} {M' : am_M} {k9 : Int → am_M → am_Rs} (hk9 : ∀ w1 M, k9 w1 M = some (x, M') → am_R none 271 bk_X9_digest 9 (am_wr [56, 2, 0, 0, 0] [w1]) [] SH M (am_rv (am_rk 271) x) SH M') : ∀ (n : Nat) (v1 v3 : Int) (M : am_M), XL_X9_digest_53_7 k9 n v1 v3 M = some (x, M') → am_R none 271 bk_X9_digest 7 (am_wr [56, 2, 0, 1, 0] [v1, v3]) [] SH M (am_rv (am_rk 271) x) SH M'
  | 0, v1, v3, M, h => by cases h
  | n + 1, v1, v3, M, h => rs_X9_digest_53_7 (ls_X9_digest_53_7 hk9 n) hk9 v1 v3 M h
noncomputable def XL_X9_digest_53_12 (k14 : Int → Int → am_M → am_Rs) : Nat → Int → Int → Int → am_M → am_Rs
  | 0, _, _, _, _ => none
  | n + 1, v1, v3, v4, M => XB_X9_digest_53_12 (XL_X9_digest_53_12 k14 n) k14 v1 v3 v4 M
theorem ls_X9_digest_53_12 {x : Int} {M' : am_M} {k14 : Int → Int → am_M → am_Rs} (hk14 : ∀ w1 w3 M, k14 w1 w3 M = some (x, M') → am_R none 271 bk_X9_digest 14 (am_wr [56, 2, 0, 1, 0] [w1, w3]) [] SH M (am_rv (am_rk 271) x) SH M') : ∀ (n : Nat) (v1 v3 v4 : Int) (M : am_M), XL_X9_digest_53_12 k14 n v1 v3 v4 M = some (x, M') → am_R none 271 bk_X9_digest 12 (am_wr [56, 2, 0, 1, 1] [v1, v3, v4]) [] SH M (am_rv (am_rk 271) x) SH M'
  | 0, v1, v3, v4, M, h => by cases h
  | n + 1, v1, v3, v4, M, h => rs_X9_digest_53_12 (ls_X9_digest_53_12 hk14 n) hk14 v1 v3 v4 M h
noncomputable def XL_X9_digest_53_10 (k15 : Int → am_M → am_Rs) : Nat → Int → Int → am_M → am_Rs
  | 0, _, _, _ => none
  | n + 1, v1, v3, M => XB_X9_digest_53_10 (XL_X9_digest_53_12 (XB_X9_digest_53_14 (XL_X9_digest_53_10 k15 n)) 1000) k15 v1 v3 M
theorem ls_X9_digest_53_10 {x : Int} {M' : am_M} {k15 : Int → am_M → am_Rs} (hk15 : ∀ w1 M, k15 w1 M = some (x, M') → am_R none 271 bk_X9_digest 15 (am_wr [56, 2, 0, 0, 0] [w1]) [] SH M (am_rv (am_rk 271) x) SH M') : ∀ (n : Nat) (v1 v3 : Int) (M : am_M), XL_X9_digest_53_10 k15 n v1 v3 M = some (x, M') → am_R none 271 bk_X9_digest 10 (am_wr [56, 2, 0, 1, 0] [v1, v3]) [] SH M (am_rv (am_rk 271) x) SH M'
  | 0, v1, v3, M, h => by cases h
  | n + 1, v1, v3, M, h => rs_X9_digest_53_10 (ls_X9_digest_53_12 (rs_X9_digest_53_14 (ls_X9_digest_53_10 hk15 n)) 1000) hk15 v1 v3 M h
noncomputable def XL_X9_digest_53_18 (k20 : Int → Int → am_M → am_Rs) : Nat → Int → Int → Int → am_M → am_Rs
  | 0, _, _, _, _ => none
  | n + 1, v1, v3, v4, M => XB_X9_digest_53_18 (XL_X9_digest_53_18 k20 n) k20 v1 v3 v4 M
theorem ls_X9_digest_53_18 {x : Int} {M' : am_M} {k20 : Int → Int → am_M → am_Rs} (hk20 : ∀ w1 w3 M, k20 w1 w3 M = some (x, M') → am_R none 271 bk_X9_digest 20 (am_wr [56, 2, 0, 1, 0] [w1, w3]) [] SH M (am_rv (am_rk 271) x) SH M') : ∀ (n : Nat) (v1 v3 v4 : Int) (M : am_M), XL_X9_digest_53_18 k20 n v1 v3 v4 M = some (x, M') → am_R none 271 bk_X9_digest 18 (am_wr [56, 2, 0, 1, 1] [v1, v3, v4]) [] SH M (am_rv (am_rk 271) x) SH M'
  | 0, v1, v3, v4, M, h => by cases h
  | n + 1, v1, v3, v4, M, h => rs_X9_digest_53_18 (ls_X9_digest_53_18 hk20 n) hk20 v1 v3 v4 M h
noncomputable def XL_X9_digest_53_16 (k21 : Int → am_M → am_Rs) : Nat → Int → Int → am_M → am_Rs
  | 0, _, _, _ => none
  | n + 1, v1, v3, M => XB_X9_digest_53_16 (XL_X9_digest_53_18 (XB_X9_digest_53_20 (XL_X9_digest_53_16 k21 n)) 1000) k21 v1 v3 M
theorem ls_X9_digest_53_16 {x : Int} {M' : am_M} {k21 : Int → am_M → am_Rs} (hk21 : ∀ w1 M, k21 w1 M = some (x, M') → am_R none 271 bk_X9_digest 21 (am_wr [0, 2, 0, 0, 0] [w1]) [] SH M (am_rv (am_rk 271) x) SH M') : ∀ (n : Nat) (v1 v3 : Int) (M : am_M), XL_X9_digest_53_16 k21 n v1 v3 M = some (x, M') → am_R none 271 bk_X9_digest 16 (am_wr [56, 2, 0, 1, 0] [v1, v3]) [] SH M (am_rv (am_rk 271) x) SH M'
  | 0, v1, v3, M, h => by cases h
  | n + 1, v1, v3, M, h => rs_X9_digest_53_16 (ls_X9_digest_53_18 (rs_X9_digest_53_20 (ls_X9_digest_53_16 hk21 n)) 1000) hk21 v1 v3 M h
noncomputable def X_X9_digest_53 (M : am_M) : am_Rs := XB_X9_digest_53_e (XL_X9_digest_53_1 (XB_X9_digest_53_3 (XL_X9_digest_53_4 (XB_X9_digest_53_6 (XL_X9_digest_53_7 (XB_X9_digest_53_9 (XL_X9_digest_53_10 (XB_X9_digest_53_15 (XL_X9_digest_53_16 (XB_X9_digest_53_21) 1000)) 1000)) 1000)) 1000)) 1000) M
theorem dc_X9_digest_53 (M M' : am_M) (x : Int) (h : X_X9_digest_53 M = some (x, M')) : am_Calls 271 [.inr (.inr (some 53))] SH M (am_rv (am_rk 271) x) SH M' :=
  am_enter pn_X9_digest ml_X9_digest rfl (Nat.le_of_ble_eq_true rfl) ⟨Nat.le_refl _, Nat.le_refl _⟩ (rs_X9_digest_53_e (ls_X9_digest_53_1 (rs_X9_digest_53_3 (ls_X9_digest_53_4 (rs_X9_digest_53_6 (ls_X9_digest_53_7 (rs_X9_digest_53_9 (ls_X9_digest_53_10 (rs_X9_digest_53_15 (ls_X9_digest_53_16 (rs_X9_digest_53_21) 1000)) 1000)) 1000)) 1000)) 1000) M h)
