noncomputable def F_X9_isStrip_53 : Nat → List am_V → am_M → am_Rs := fun k as M => if k = 168 then (match as with
  | [.inr (.inl a0), .inr (.inl a2), .inr (.inl a4)] => X_X9_in a0 a2 a4 M
  | _ => none) else none
theorem fs_X9_isStrip_53 : am_FS SH F_X9_isStrip_53 := by
  intro k as M x M' h
  unfold F_X9_isStrip_53 at h
  split at h
  · rename_i hk; subst hk
    split at h
    · exact dc_X9_in _ _ _ _ _ _ h
    · cases h
  cases h
noncomputable def X_X9_isStrip_53 (v1 : Int) (M : am_M) : am_Rs :=
  (X_X9_in (wI v1) 0 (wI ((M 53 1) - 1)) M).bind fun z1 =>
  if z1.1 = 0 ∨ z1.1 = 1 then
  some (z1.1, z1.2)
  else none
set_option maxRecDepth 100000 in
theorem dc_X9_isStrip_53 (v1 : Int) (M M' : am_M) (x : Int) (h : X_X9_isStrip_53 v1 M = some (x, M')) : am_Calls 194 [.inr (.inr (some 53)), .inl v1] SH M (am_rv (am_rk 194) x) SH M' :=
  vCall (F := F_X9_isStrip_53) (C := fun _ _ _ _ => none) (fu := 3) ok_X9_isStrip pn_X9_isStrip ml_X9_isStrip rfl (Nat.le_of_ble_eq_true rfl) fs_X9_isStrip_53 (fun _ _ _ _ h => by cases h) h
noncomputable def X_X9_toldOf_53 (v1 v2 : Int) (M : am_M) : am_Rs :=
  if wI v2 = 0 then
   if 0 ≤ wI v1 ∧ wI v1 < 12 then
   some (M 55 (wI v1).toNat, M)
   else none
  else if wI v2 = 0 + 1 then
   if 0 ≤ wI v1 ∧ wI v1 < 12 then
   some (M 56 (wI v1).toNat, M)
   else none
  else if wI v2 = 0 + 1 + 1 then
   if wI v1 < wI (M 54 1) then
    some (0, M)
   else some (1, M)
  else if 0 ≤ wI (((4 + (3 * v1)) + v2) - 3) ∧ wI (((4 + (3 * v1)) + v2) - 3) < 605 then
  some (M 54 (wI (((4 + (3 * v1)) + v2) - 3)).toNat, M)
  else none
set_option maxRecDepth 100000 in
theorem dc_X9_toldOf_53 (v1 v2 : Int) (M M' : am_M) (x : Int) (h : X_X9_toldOf_53 v1 v2 M = some (x, M')) : am_Calls 202 [.inr (.inr (some 53)), .inl v1, .inl v2] SH M (am_rv (am_rk 202) x) SH M' :=
  vCall (F := F_none) (C := fun _ _ _ _ => none) (fu := 10) ok_X9_toldOf pn_X9_toldOf ml_X9_toldOf rfl (Nat.le_of_ble_eq_true rfl) fs_none (fun _ _ _ _ h => by cases h) h
noncomputable def F_X9_strip_53 : Nat → List am_V → am_M → am_Rs := fun k as M => if k = 168 then (match as with
  | [.inr (.inl a0), .inr (.inl a2), .inr (.inl a4)] => X_X9_in a0 a2 a4 M
  | _ => none) else if k = 171 then (match as with
  | [.inr (.inr (some 53)), .inl a1] => X_X9_tell_53 a1 M
  | _ => none) else if k = 194 then (match as with
  | [.inr (.inr (some 53)), .inl a1] => X_X9_isStrip_53 a1 M
  | _ => none) else if k = 202 then (match as with
  | [.inr (.inr (some 53)), .inl a1, .inl a2] => X_X9_toldOf_53 a1 a2 M
  | _ => none) else none
theorem fs_X9_strip_53 : am_FS SH F_X9_strip_53 := by
  intro k as M x M' h
  unfold F_X9_strip_53 at h
  split at h
  · rename_i hk; subst hk
    split at h
    · exact dc_X9_in _ _ _ _ _ _ h
    · cases h
  split at h
  · rename_i hk; subst hk
    split at h
    · exact dc_X9_tell_53 _ _ _ _ h
    · cases h
  split at h
  · rename_i hk; subst hk
    split at h
    · exact dc_X9_isStrip_53 _ _ _ _ h
    · cases h
  split at h
  · rename_i hk; subst hk
    split at h
    · exact dc_X9_toldOf_53 _ _ _ _ _ h
    · cases h
  cases h
noncomputable def X_X9_strip_53 (v1 v2 : Int) (M : am_M) : am_Rs :=
  (X_X9_isStrip_53 v1 M).bind fun z1 =>
  if wI z1.1 = 0 then
   some ((-1), z1.2)
  else (X_X9_in (wI v2) 0 5 z1.2).bind fun z2 =>
  if wI z2.1 = 0 then
   some ((-1), z2.2)
  else (X_X9_toldOf_53 v1 v2 z2.2).bind fun z3 =>
  (X_X9_tell_53 z3.1 z3.2).bind fun z4 =>
  some (z4.1, z4.2)
set_option maxRecDepth 100000 in
theorem dc_X9_strip_53 (v1 v2 : Int) (M M' : am_M) (x : Int) (h : X_X9_strip_53 v1 v2 M = some (x, M')) : am_Calls 201 [.inr (.inr (some 53)), .inl v1, .inl v2] SH M (am_rv (am_rk 201) x) SH M' :=
  vCall (F := F_X9_strip_53) (C := fun _ _ _ _ => none) (fu := 7) ok_X9_strip pn_X9_strip ml_X9_strip rfl (Nat.le_of_ble_eq_true rfl) fs_X9_strip_53 (fun _ _ _ _ h => by cases h) h
noncomputable def X_X9_isOf_53 (v1 v2 : Int) (M : am_M) : am_Rs :=
  if 0 ≤ wI v1 ∧ wI v1 < 12 then
  if wI (M 55 (wI v1).toNat) = wI v2 then
    some (1, M)
   else if wI v2 = 1 then
    if 0 ≤ wI v1 ∧ wI v1 < 12 then
    if wI (M 55 (wI v1).toNat) = 4 then
      some (1, M)
     else if wI v2 = 2 then
      if 0 ≤ wI v1 ∧ wI v1 < 12 then
      if wI (M 55 (wI v1).toNat) = 5 then
        some (1, M)
       else some (0, M)
      else none
     else some (0, M)
    else none
   else if wI v2 = 2 then
    if 0 ≤ wI v1 ∧ wI v1 < 12 then
    if wI (M 55 (wI v1).toNat) = 5 then
      some (1, M)
     else some (0, M)
    else none
   else some (0, M)
  else none
set_option maxRecDepth 100000 in
theorem dc_X9_isOf_53 (v1 v2 : Int) (M M' : am_M) (x : Int) (h : X_X9_isOf_53 v1 v2 M = some (x, M')) : am_Calls 203 [.inr (.inr (some 53)), .inl v1, .inl v2] SH M (am_rv (am_rk 203) x) SH M' :=
  vCall (F := F_none) (C := fun _ _ _ _ => none) (fu := 10) ok_X9_isOf pn_X9_isOf ml_X9_isOf rfl (Nat.le_of_ble_eq_true rfl) fs_none (fun _ _ _ _ h => by cases h) h
noncomputable def X_X9_isAt (v0 v1 : Int) (M : am_M) : am_Rs :=
  if wI v0 = wI v1 then
   some (1, M)
  else if wI v0 = wI (v1 + 1) then
   some (1, M)
  else some (0, M)
set_option maxRecDepth 100000 in
theorem dc_X9_isAt (v0 v1 : Int) (M M' : am_M) (x : Int) (h : X_X9_isAt v0 v1 M = some (x, M')) : am_Calls 197 [.inl v0, .inl v1] SH M (am_rv (am_rk 197) x) SH M' :=
  vCall (F := F_none) (C := fun _ _ _ _ => none) (fu := 7) ok_X9_isAt pn_X9_isAt ml_X9_isAt rfl (Nat.le_of_ble_eq_true rfl) fs_none (fun _ _ _ _ h => by cases h) h
noncomputable def F_X9_paysTo_53 : Nat → List am_V → am_M → am_Rs := fun k as M => if k = 197 then (match as with
  | [.inl a0, .inl a1] => X_X9_isAt a0 a1 M
  | _ => none) else none
theorem fs_X9_paysTo_53 : am_FS SH F_X9_paysTo_53 := by
  intro k as M x M' h
  unfold F_X9_paysTo_53 at h
  split at h
  · rename_i hk; subst hk
    split at h
    · exact dc_X9_isAt _ _ _ _ _ h
    · cases h
  cases h
noncomputable def X_X9_paysTo_53 (v1 v2 v3 v4 : Int) (M : am_M) : am_Rs :=
  if 0 ≤ wI v1 ∧ wI v1 < 12 then
  if wI v1 < wI v3 then
    if 0 = wI v2 then
     if 0 ≤ wI v1 ∧ wI v1 < 12 then
     if wI (M 55 (wI v1).toNat) = 1 then
       some ((M 56 (wI v1).toNat) * v4, M)
      else if wI (M 55 (wI v1).toNat) = 1 + 1 then
       some (0, M)
      else if wI (M 55 (wI v1).toNat) = 1 + 1 + 1 then
       some (0, M)
      else if wI (M 55 (wI v1).toNat) = 1 + 1 + 1 + 1 then
       some (2 * ((M 56 (wI v1).toNat) * v4), M)
      else if wI (M 55 (wI v1).toNat) = 1 + 1 + 1 + 1 + 1 then
       (X_X9_isAt v3 v1 M).bind fun z1 =>
       if wI z1.1 = 0 then
        some (0, z1.2)
       else some ((wI ((M 56 (wI v1).toNat) * v4)).tdiv 2, z1.2)
      else some (0, M)
     else none
    else if 0 ≤ wI v1 ∧ wI v1 < 12 then
    if wI (M 55 (wI v1).toNat) = 1 then
      some (0, M)
     else if wI (M 55 (wI v1).toNat) = 1 + 1 then
      some (0, M)
     else if wI (M 55 (wI v1).toNat) = 1 + 1 + 1 then
      some (0, M)
     else if wI (M 55 (wI v1).toNat) = 1 + 1 + 1 + 1 then
      some (0, M)
     else if wI (M 55 (wI v1).toNat) = 1 + 1 + 1 + 1 + 1 then
      (X_X9_isAt v3 v1 M).bind fun z1 =>
      if wI z1.1 = 0 then
       some (0, z1.2)
      else some ((wI ((M 56 (wI v1).toNat) * v4)).tdiv 2, z1.2)
     else some (0, M)
    else none
   else if 1 = wI v2 then
    if 0 ≤ wI v1 ∧ wI v1 < 12 then
    if wI (M 55 (wI v1).toNat) = 1 then
      some ((M 56 (wI v1).toNat) * v4, M)
     else if wI (M 55 (wI v1).toNat) = 1 + 1 then
      some (0, M)
     else if wI (M 55 (wI v1).toNat) = 1 + 1 + 1 then
      some (0, M)
     else if wI (M 55 (wI v1).toNat) = 1 + 1 + 1 + 1 then
      some (2 * ((M 56 (wI v1).toNat) * v4), M)
     else if wI (M 55 (wI v1).toNat) = 1 + 1 + 1 + 1 + 1 then
      (X_X9_isAt v3 v1 M).bind fun z1 =>
      if wI z1.1 = 0 then
       some (0, z1.2)
      else some ((wI ((M 56 (wI v1).toNat) * v4)).tdiv 2, z1.2)
     else some (0, M)
    else none
   else if 0 ≤ wI v1 ∧ wI v1 < 12 then
   if wI (M 55 (wI v1).toNat) = 1 then
     some (0, M)
    else if wI (M 55 (wI v1).toNat) = 1 + 1 then
     some (0, M)
    else if wI (M 55 (wI v1).toNat) = 1 + 1 + 1 then
     some (0, M)
    else if wI (M 55 (wI v1).toNat) = 1 + 1 + 1 + 1 then
     some (0, M)
    else if wI (M 55 (wI v1).toNat) = 1 + 1 + 1 + 1 + 1 then
     (X_X9_isAt v3 v1 M).bind fun z1 =>
     if wI z1.1 = 0 then
      some (0, z1.2)
     else some ((wI ((M 56 (wI v1).toNat) * v4)).tdiv 2, z1.2)
    else some (0, M)
   else none
  else none
set_option maxRecDepth 100000 in
theorem dc_X9_paysTo_53 (v1 v2 v3 v4 : Int) (M M' : am_M) (x : Int) (h : X_X9_paysTo_53 v1 v2 v3 v4 M = some (x, M')) : am_Calls 198 [.inr (.inr (some 53)), .inl v1, .inl v2, .inl v3, .inl v4] SH M (am_rv (am_rk 198) x) SH M' :=
  vCall (F := F_X9_paysTo_53) (C := fun _ _ _ _ => none) (fu := 22) ok_X9_paysTo pn_X9_paysTo ml_X9_paysTo rfl (Nat.le_of_ble_eq_true rfl) fs_X9_paysTo_53 (fun _ _ _ _ h => by cases h) h
noncomputable def F_X9_paysNow_53 : Nat → List am_V → am_M → am_Rs := fun k as M => if k = 198 then (match as with
  | [.inr (.inr (some 53)), .inl a1, .inl a2, .inl a3, .inl a4] => X_X9_paysTo_53 a1 a2 a3 a4 M
  | _ => none) else none
theorem fs_X9_paysNow_53 : am_FS SH F_X9_paysNow_53 := by
  intro k as M x M' h
  unfold F_X9_paysNow_53 at h
  split at h
  · rename_i hk; subst hk
    split at h
    · exact dc_X9_paysTo_53 _ _ _ _ _ _ _ h
    · cases h
  cases h
noncomputable def X_X9_paysNow_53 (v1 : Int) (M : am_M) : am_Rs :=
  (X_X9_paysTo_53 v1 0 (M 54 1) (M 54 2) M).bind fun z1 =>
  (X_X9_paysTo_53 v1 1 (z1.2 54 1) (z1.2 54 3) z1.2).bind fun z2 =>
  some (z1.1 + z2.1, z2.2)
set_option maxRecDepth 100000 in
theorem dc_X9_paysNow_53 (v1 : Int) (M M' : am_M) (x : Int) (h : X_X9_paysNow_53 v1 M = some (x, M')) : am_Calls 204 [.inr (.inr (some 53)), .inl v1] SH M (am_rv (am_rk 204) x) SH M' :=
  vCall (F := F_X9_paysNow_53) (C := fun _ _ _ _ => none) (fu := 3) ok_X9_paysNow pn_X9_paysNow ml_X9_paysNow rfl (Nat.le_of_ble_eq_true rfl) fs_X9_paysNow_53 (fun _ _ _ _ h => by cases h) h
noncomputable def F_X9_mark_53 : Nat → List am_V → am_M → am_Rs := fun k as M => if k = 168 then (match as with
  | [.inr (.inl a0), .inr (.inl a2), .inr (.inl a4)] => X_X9_in a0 a2 a4 M
  | _ => none) else if k = 170 then (match as with
  | [.inr (.inr (some 53)), .inl a1] => X_X9_find_53 a1 M
  | _ => none) else if k = 194 then (match as with
  | [.inr (.inr (some 53)), .inl a1] => X_X9_isStrip_53 a1 M
  | _ => none) else if k = 197 then (match as with
  | [.inl a0, .inl a1] => X_X9_isAt a0 a1 M
  | _ => none) else if k = 203 then (match as with
  | [.inr (.inr (some 53)), .inl a1, .inl a2] => X_X9_isOf_53 a1 a2 M
  | _ => none) else if k = 204 then (match as with
  | [.inr (.inr (some 53)), .inl a1] => X_X9_paysNow_53 a1 M
  | _ => none) else none
theorem fs_X9_mark_53 : am_FS SH F_X9_mark_53 := by
  intro k as M x M' h
  unfold F_X9_mark_53 at h
  split at h
  · rename_i hk; subst hk
    split at h
    · exact dc_X9_in _ _ _ _ _ _ h
    · cases h
  split at h
  · rename_i hk; subst hk
    split at h
    · exact dc_X9_find_53 _ _ _ _ h
    · cases h
  split at h
  · rename_i hk; subst hk
    split at h
    · exact dc_X9_isStrip_53 _ _ _ _ h
    · cases h
  split at h
  · rename_i hk; subst hk
    split at h
    · exact dc_X9_isAt _ _ _ _ _ h
    · cases h
  split at h
  · rename_i hk; subst hk
    split at h
    · exact dc_X9_isOf_53 _ _ _ _ _ h
    · cases h
  split at h
  · rename_i hk; subst hk
    split at h
    · exact dc_X9_paysNow_53 _ _ _ _ h
    · cases h
  cases h
noncomputable def X_X9_mark_53 (v1 v2 : Int) (M : am_M) : am_Rs :=
  (X_X9_isStrip_53 v1 M).bind fun z1 =>
  if wI z1.1 = 0 then
   some ((-1), z1.2)
  else (X_X9_in (wI v2) 1 5 z1.2).bind fun z2 =>
  if wI z2.1 = 0 then
   some ((-1), z2.2)
  else (X_X9_isOf_53 v1 v2 z2.2).bind fun z3 =>
  if wI z3.1 = 0 then
   (X_X9_find_53 3 z3.2).bind fun z4 =>
   some (z4.1, z4.2)
  else if wI v2 = 2 then
   (X_X9_isAt (z3.2 54 1) v1 z3.2).bind fun z4 =>
   if wI z4.1 = 0 then
    some (0, z4.2)
   else some (1, z4.2)
  else if wI v2 = 2 + 1 then
   if wI ((wI (z3.2 54 0)).tmod 2) = 0 then
    some (1, z3.2)
   else some (0, z3.2)
  else if wI v2 = 2 + 1 + 1 then
   (X_X9_paysNow_53 v1 z3.2).bind fun z4 =>
   some ((wI z4.1).tdiv 2, z4.2)
  else (X_X9_paysNow_53 v1 z3.2).bind fun z4 =>
  some (z4.1, z4.2)
set_option maxRecDepth 100000 in
theorem dc_X9_mark_53 (v1 v2 : Int) (M M' : am_M) (x : Int) (h : X_X9_mark_53 v1 v2 M = some (x, M')) : am_Calls 205 [.inr (.inr (some 53)), .inl v1, .inl v2] SH M (am_rv (am_rk 205) x) SH M' :=
  vCall (F := F_X9_mark_53) (C := fun _ _ _ _ => none) (fu := 18) ok_X9_mark pn_X9_mark ml_X9_mark rfl (Nat.le_of_ble_eq_true rfl) fs_X9_mark_53 (fun _ _ _ _ h => by cases h) h
noncomputable def F_X9_rate_53 : Nat → List am_V → am_M → am_Rs := fun k as M => if k = 168 then (match as with
  | [.inr (.inl a0), .inr (.inl a2), .inr (.inl a4)] => X_X9_in a0 a2 a4 M
  | _ => none) else none
theorem fs_X9_rate_53 : am_FS SH F_X9_rate_53 := by
  intro k as M x M' h
  unfold F_X9_rate_53 at h
  split at h
  · rename_i hk; subst hk
    split at h
    · exact dc_X9_in _ _ _ _ _ _ h
    · cases h
  cases h
noncomputable def X_X9_rate_53 (v1 v2 : Int) (M : am_M) : am_Rs :=
  (X_X9_in (wI v1) 0 1 M).bind fun z1 =>
  if wI z1.1 = 0 then
   some ((-1), z1.2)
  else (X_X9_in (wI v2) 1 9 z1.2).bind fun z2 =>
  if wI z2.1 = 0 then
   some ((-1), z2.2)
  else if wI (z2.2 53 1) = 0 then
   some ((-4), z2.2)
  else if 0 ≤ wI (2 + v1) ∧ wI (2 + v1) < 605 then
  if 0 ≤ wI (2 + v1) ∧ wI (2 + v1) < 605 then
   some (z2.2 54 (wI (2 + v1)).toNat, (am_up z2.2 54 (wI (2 + v1)).toNat v2))
   else none
  else none
set_option maxRecDepth 100000 in
theorem dc_X9_rate_53 (v1 v2 : Int) (M M' : am_M) (x : Int) (h : X_X9_rate_53 v1 v2 M = some (x, M')) : am_Calls 206 [.inr (.inr (some 53)), .inl v1, .inl v2] SH M (am_rv (am_rk 206) x) SH M' :=
  vCall (F := F_X9_rate_53) (C := fun _ _ _ _ => none) (fu := 8) ok_X9_rate pn_X9_rate ml_X9_rate rfl (Nat.le_of_ble_eq_true rfl) fs_X9_rate_53 (fun _ _ _ _ h => by cases h) h
noncomputable def F_X9_isSaid : Nat → List am_V → am_M → am_Rs := fun k as M => if k = 168 then (match as with
  | [.inr (.inl a0), .inr (.inl a2), .inr (.inl a4)] => X_X9_in a0 a2 a4 M
  | _ => none) else none
theorem fs_X9_isSaid : am_FS SH F_X9_isSaid := by
  intro k as M x M' h
  unfold F_X9_isSaid at h
  split at h
  · rename_i hk; subst hk
    split at h
    · exact dc_X9_in _ _ _ _ _ _ h
    · cases h
  cases h
noncomputable def X_X9_isSaid (v0 : Int) (M : am_M) : am_Rs :=
  (X_X9_in (wI v0) 0 3 M).bind fun z1 =>
  if z1.1 = 0 ∨ z1.1 = 1 then
  some (z1.1, z1.2)
  else none
set_option maxRecDepth 100000 in
theorem dc_X9_isSaid (v0 : Int) (M M' : am_M) (x : Int) (h : X_X9_isSaid v0 M = some (x, M')) : am_Calls 207 [.inl v0] SH M (am_rv (am_rk 207) x) SH M' :=
  vCall (F := F_X9_isSaid) (C := fun _ _ _ _ => none) (fu := 3) ok_X9_isSaid pn_X9_isSaid ml_X9_isSaid rfl (Nat.le_of_ble_eq_true rfl) fs_X9_isSaid (fun _ _ _ _ h => by cases h) h
noncomputable def X_X9_isWall (v0 : Int) (M : am_M) : am_Rs :=
  if wI v0 = 2 then
   some (1, M)
  else if wI v0 = 5 then
   some (1, M)
  else some (0, M)
set_option maxRecDepth 100000 in
theorem dc_X9_isWall (v0 : Int) (M M' : am_M) (x : Int) (h : X_X9_isWall v0 M = some (x, M')) : am_Calls 195 [.inl v0] SH M (am_rv (am_rk 195) x) SH M' :=
  vCall (F := F_none) (C := fun _ _ _ _ => none) (fu := 7) ok_X9_isWall pn_X9_isWall ml_X9_isWall rfl (Nat.le_of_ble_eq_true rfl) fs_none (fun _ _ _ _ h => by cases h) h
noncomputable def F_X9_behind_53 : Nat → List am_V → am_M → am_Rs := fun k as M => if k = 194 then (match as with
  | [.inr (.inr (some 53)), .inl a1] => X_X9_isStrip_53 a1 M
  | _ => none) else if k = 195 then (match as with
  | [.inl a0] => X_X9_isWall a0 M
  | _ => none) else none
theorem fs_X9_behind_53 : am_FS SH F_X9_behind_53 := by
  intro k as M x M' h
  unfold F_X9_behind_53 at h
  split at h
  · rename_i hk; subst hk
    split at h
    · exact dc_X9_isStrip_53 _ _ _ _ h
    · cases h
  split at h
  · rename_i hk; subst hk
    split at h
    · exact dc_X9_isWall _ _ _ _ h
    · cases h
  cases h
noncomputable def X_X9_behind_53 (v1 v2 v3 v4 : Int) (M : am_M) : am_Rs :=
  if wI v4 < wI v3 then
   if wI v4 < wI v3 then
    if wI (v3 - v4) = 0 then
     some (v1, M)
    else (X_X9_isStrip_53 (v1 - 1) M).bind fun z1 =>
    if wI z1.1 = 0 then
     some (v1, z1.2)
    else if 0 ≤ wI (v1 - 1) ∧ wI (v1 - 1) < 12 then
    (X_X9_isWall (z1.2 55 (wI (v1 - 1)).toNat) z1.2).bind fun z2 =>
     if wI z2.1 = 0 then
      if 0 ≤ wI (v1 - 1) ∧ wI (v1 - 1) < 12 then
      if wI (z2.2 55 (wI (v1 - 1)).toNat) = 3 then
        if wI ((wI v2).tmod 2) = 1 then
         some (v1, z2.2)
        else if wI v4 < wI v3 then
         some (v1 - 1, z2.2)
        else some (v1 + 1, z2.2)
       else if wI v4 < wI v3 then
        some (v1 - 1, z2.2)
       else some (v1 + 1, z2.2)
      else none
     else if wI (v3 - v4) = 1 then
      some (v1, z2.2)
     else if 0 ≤ wI (v1 - 1) ∧ wI (v1 - 1) < 12 then
     if wI (z2.2 55 (wI (v1 - 1)).toNat) = 3 then
       if wI ((wI v2).tmod 2) = 1 then
        some (v1, z2.2)
       else if wI v4 < wI v3 then
        some (v1 - 1, z2.2)
       else some (v1 + 1, z2.2)
      else if wI v4 < wI v3 then
       some (v1 - 1, z2.2)
      else some (v1 + 1, z2.2)
     else none
    else none
   else if wI (v3 - v4) = 0 then
    some (v1, M)
   else (X_X9_isStrip_53 v1 M).bind fun z1 =>
   if wI z1.1 = 0 then
    some (v1, z1.2)
   else if 0 ≤ wI v1 ∧ wI v1 < 12 then
   (X_X9_isWall (z1.2 55 (wI v1).toNat) z1.2).bind fun z2 =>
    if wI z2.1 = 0 then
     if 0 ≤ wI v1 ∧ wI v1 < 12 then
     if wI (z2.2 55 (wI v1).toNat) = 3 then
       if wI ((wI v2).tmod 2) = 1 then
        some (v1, z2.2)
       else if wI v4 < wI v3 then
        some (v1 - 1, z2.2)
       else some (v1 + 1, z2.2)
      else if wI v4 < wI v3 then
       some (v1 - 1, z2.2)
      else some (v1 + 1, z2.2)
     else none
    else if wI (v3 - v4) = 1 then
     some (v1, z2.2)
    else if 0 ≤ wI v1 ∧ wI v1 < 12 then
    if wI (z2.2 55 (wI v1).toNat) = 3 then
      if wI ((wI v2).tmod 2) = 1 then
       some (v1, z2.2)
      else if wI v4 < wI v3 then
       some (v1 - 1, z2.2)
      else some (v1 + 1, z2.2)
     else if wI v4 < wI v3 then
      some (v1 - 1, z2.2)
     else some (v1 + 1, z2.2)
    else none
   else none
  else if wI v4 < wI v3 then
   if wI (v4 - v3) = 0 then
    some (v1, M)
   else (X_X9_isStrip_53 (v1 - 1) M).bind fun z1 =>
   if wI z1.1 = 0 then
    some (v1, z1.2)
   else if 0 ≤ wI (v1 - 1) ∧ wI (v1 - 1) < 12 then
   (X_X9_isWall (z1.2 55 (wI (v1 - 1)).toNat) z1.2).bind fun z2 =>
    if wI z2.1 = 0 then
     if 0 ≤ wI (v1 - 1) ∧ wI (v1 - 1) < 12 then
     if wI (z2.2 55 (wI (v1 - 1)).toNat) = 3 then
       if wI ((wI v2).tmod 2) = 1 then
        some (v1, z2.2)
       else if wI v4 < wI v3 then
        some (v1 - 1, z2.2)
       else some (v1 + 1, z2.2)
      else if wI v4 < wI v3 then
       some (v1 - 1, z2.2)
      else some (v1 + 1, z2.2)
     else none
    else if wI (v4 - v3) = 1 then
     some (v1, z2.2)
    else if 0 ≤ wI (v1 - 1) ∧ wI (v1 - 1) < 12 then
    if wI (z2.2 55 (wI (v1 - 1)).toNat) = 3 then
      if wI ((wI v2).tmod 2) = 1 then
       some (v1, z2.2)
      else if wI v4 < wI v3 then
       some (v1 - 1, z2.2)
      else some (v1 + 1, z2.2)
     else if wI v4 < wI v3 then
      some (v1 - 1, z2.2)
     else some (v1 + 1, z2.2)
    else none
   else none
  else if wI (v4 - v3) = 0 then
   some (v1, M)
  else (X_X9_isStrip_53 v1 M).bind fun z1 =>
  if wI z1.1 = 0 then
   some (v1, z1.2)
  else if 0 ≤ wI v1 ∧ wI v1 < 12 then
  (X_X9_isWall (z1.2 55 (wI v1).toNat) z1.2).bind fun z2 =>
   if wI z2.1 = 0 then
    if 0 ≤ wI v1 ∧ wI v1 < 12 then
    if wI (z2.2 55 (wI v1).toNat) = 3 then
      if wI ((wI v2).tmod 2) = 1 then
       some (v1, z2.2)
      else if wI v4 < wI v3 then
       some (v1 - 1, z2.2)
      else some (v1 + 1, z2.2)
     else if wI v4 < wI v3 then
      some (v1 - 1, z2.2)
     else some (v1 + 1, z2.2)
    else none
   else if wI (v4 - v3) = 1 then
    some (v1, z2.2)
   else if 0 ≤ wI v1 ∧ wI v1 < 12 then
   if wI (z2.2 55 (wI v1).toNat) = 3 then
     if wI ((wI v2).tmod 2) = 1 then
      some (v1, z2.2)
     else if wI v4 < wI v3 then
      some (v1 - 1, z2.2)
     else some (v1 + 1, z2.2)
    else if wI v4 < wI v3 then
     some (v1 - 1, z2.2)
    else some (v1 + 1, z2.2)
   else none
  else none
set_option maxRecDepth 100000 in
theorem dc_X9_behind_53 (v1 v2 v3 v4 : Int) (M M' : am_M) (x : Int) (h : X_X9_behind_53 v1 v2 v3 v4 M = some (x, M')) : am_Calls 196 [.inr (.inr (some 53)), .inl v1, .inl v2, .inl v3, .inl v4] SH M (am_rv (am_rk 196) x) SH M' :=
  vCall (F := F_X9_behind_53) (C := fun _ _ _ _ => none) (fu := 19) ok_X9_behind pn_X9_behind ml_X9_behind rfl (Nat.le_of_ble_eq_true rfl) fs_X9_behind_53 (fun _ _ _ _ h => by cases h) h
noncomputable def X_X9_isTaxed (v0 : Int) (M : am_M) : am_Rs :=
  if wI ((wI v0).tmod 10) = 9 then
   if wI v0 < 40 then
    some (1, M)
   else some (0, M)
  else some (0, M)
set_option maxRecDepth 100000 in
theorem dc_X9_isTaxed (v0 : Int) (M M' : am_M) (x : Int) (h : X_X9_isTaxed v0 M = some (x, M')) : am_Calls 199 [.inl v0] SH M (am_rv (am_rk 199) x) SH M' :=
  vCall (F := F_none) (C := fun _ _ _ _ => none) (fu := 7) ok_X9_isTaxed pn_X9_isTaxed ml_X9_isTaxed rfl (Nat.le_of_ble_eq_true rfl) fs_none (fun _ _ _ _ h => by cases h) h
noncomputable def F_X9_goOn_53 : Nat → List am_V → am_M → am_Rs := fun k as M => if k = 196 then (match as with
  | [.inr (.inr (some 53)), .inl a1, .inl a2, .inl a3, .inl a4] => X_X9_behind_53 a1 a2 a3 a4 M
  | _ => none) else if k = 198 then (match as with
  | [.inr (.inr (some 53)), .inl a1, .inl a2, .inl a3, .inl a4] => X_X9_paysTo_53 a1 a2 a3 a4 M
  | _ => none) else if k = 199 then (match as with
  | [.inl a0] => X_X9_isTaxed a0 M
  | _ => none) else none
theorem fs_X9_goOn_53 : am_FS SH F_X9_goOn_53 := by
  intro k as M x M' h
  unfold F_X9_goOn_53 at h
  split at h
  · rename_i hk; subst hk
    split at h
    · exact dc_X9_behind_53 _ _ _ _ _ _ _ h
    · cases h
  split at h
  · rename_i hk; subst hk
    split at h
    · exact dc_X9_paysTo_53 _ _ _ _ _ _ _ h
    · cases h
  split at h
  · rename_i hk; subst hk
    split at h
    · exact dc_X9_isTaxed _ _ _ _ h
    · cases h
  cases h
noncomputable def XB_X9_goOn_53_5 (c6 : Int → Int → Int → Int → am_M → am_Rs) (v1 v2 v3 v4 v6 : Int) (M : am_M) : am_Rs :=
  if 0 ≤ wI ((v1 + 40) + v4) ∧ wI ((v1 + 40) + v4) < 605 then
  if 0 ≤ wI (v1 + 2) ∧ wI (v1 + 2) < 605 then
   if 0 ≤ wI ((v1 + 2) + 1) ∧ wI ((v1 + 2) + 1) < 605 then
    if 0 ≤ wI ((v1 + 80) + v4) ∧ wI ((v1 + 80) + v4) < 605 then
     if 0 ≤ wI (v1 + 1) ∧ wI (v1 + 1) < 605 then
      c6 v1 v4 v6 0 (am_up (am_up (am_up M 54 (wI ((v1 + 40) + v4)).toNat ((4 * v2) + v3)) 54 (wI ((v1 + 80) + v4)).toNat ((10 * ((am_up M 54 (wI ((v1 + 40) + v4)).toNat ((4 * v2) + v3)) 54 (wI (v1 + 2)).toNat)) + ((am_up M 54 (wI ((v1 + 40) + v4)).toNat ((4 * v2) + v3)) 54 (wI ((v1 + 2) + 1)).toNat))) 54 (wI (v1 + 1)).toNat v6)
      else none
     else none
    else none
   else none
  else none
set_option maxRecDepth 100000 in
theorem rs_X9_goOn_53_5 {x : Int} {M' : am_M} {c6 : Int → Int → Int → Int → am_M → am_Rs} (h6 : ∀ w1 w4 w6 w7 M, c6 w1 w4 w6 w7 M = some (x, M') → am_R none 200 bk_X9_goOn 6 (am_wr [56, 1, 0, 0, 1, 0, 1, 1] [w1, w4, w6, w7]) [] SH M (am_rv (am_rk 200) x) SH M') (v1 v2 v3 v4 v6 : Int) (M : am_M) (h : XB_X9_goOn_53_5 c6 v1 v2 v3 v4 v6 M = some (x, M')) : am_R none 200 bk_X9_goOn 5 (am_wr [56, 1, 1, 1, 1, 0, 1, 0] [v1, v2, v3, v4, v6]) [] SH M (am_rv (am_rk 200) x) SH M' :=
  vRegion (sc := none) (sh := SH) (F := F_X9_goOn_53) (k := 200) (bs := bk_X9_goOn) (r := (x, M')) (C := fun t lv st M => if t = 6 then vCt [56, 1, 0, 0, 1, 0, 1, 1] (un4 c6) lv st M else none) ok_X9_goOn fs_X9_goOn_53 (fun t lv st M h => by
    split at h
    · rename_i e; subst e; exact vCt_s (un4_s h6) h
    cases h) 12 5 (am_wr [56, 1, 1, 1, 1, 0, 1, 0] [v1, v2, v3, v4, v6]) [] M h
noncomputable def XB_X9_goOn_53_6 (c6 : Int → Int → Int → Int → am_M → am_Rs) (c9 : Int → am_M → am_Rs) (v1 v4 v6 v7 : Int) (M : am_M) : am_Rs :=
  if wI v7 < wI (M 53 1) then
   (X_X9_isTaxed v4 M).bind fun z1 =>
   if wI z1.1 = 0 then
    c9 v1 z1.2
   else if 0 ≤ wI ((v1 + 4) + (3 * v7)) ∧ wI ((v1 + 4) + (3 * v7)) < 605 then
   if 0 ≤ wI (v1 + 2) ∧ wI (v1 + 2) < 605 then
    (X_X9_paysTo_53 v7 0 v6 (z1.2 54 (wI (v1 + 2)).toNat) z1.2).bind fun z2 =>
     if 0 ≤ wI ((v1 + 4) + (3 * v7)) ∧ wI ((v1 + 4) + (3 * v7)) < 605 then
     if 0 ≤ wI (((v1 + 4) + (3 * v7)) + 1) ∧ wI (((v1 + 4) + (3 * v7)) + 1) < 605 then
      if 0 ≤ wI ((v1 + 2) + 1) ∧ wI ((v1 + 2) + 1) < 605 then
       (X_X9_paysTo_53 v7 1 v6 ((am_up z2.2 54 (wI ((v1 + 4) + (3 * v7))).toNat ((z1.2 54 (wI ((v1 + 4) + (3 * v7))).toNat) + z2.1)) 54 (wI ((v1 + 2) + 1)).toNat) (am_up z2.2 54 (wI ((v1 + 4) + (3 * v7))).toNat ((z1.2 54 (wI ((v1 + 4) + (3 * v7))).toNat) + z2.1))).bind fun z3 =>
        if 0 ≤ wI (((v1 + 4) + (3 * v7)) + 1) ∧ wI (((v1 + 4) + (3 * v7)) + 1) < 605 then
        c6 v1 v4 v6 (v7 + 1) (am_up z3.2 54 (wI (((v1 + 4) + (3 * v7)) + 1)).toNat (((am_up z2.2 54 (wI ((v1 + 4) + (3 * v7))).toNat ((z1.2 54 (wI ((v1 + 4) + (3 * v7))).toNat) + z2.1)) 54 (wI (((v1 + 4) + (3 * v7)) + 1)).toNat) + z3.1))
        else none
       else none
      else none
     else none
    else none
   else none
  else c9 v1 M
set_option maxRecDepth 100000 in
theorem rs_X9_goOn_53_6 {x : Int} {M' : am_M} {c6 : Int → Int → Int → Int → am_M → am_Rs} {c9 : Int → am_M → am_Rs} (h6 : ∀ w1 w4 w6 w7 M, c6 w1 w4 w6 w7 M = some (x, M') → am_R none 200 bk_X9_goOn 6 (am_wr [56, 1, 0, 0, 1, 0, 1, 1] [w1, w4, w6, w7]) [] SH M (am_rv (am_rk 200) x) SH M') (h9 : ∀ w1 M, c9 w1 M = some (x, M') → am_R none 200 bk_X9_goOn 9 (am_wr [56, 1, 0, 0, 0, 0, 0, 0] [w1]) [] SH M (am_rv (am_rk 200) x) SH M') (v1 v4 v6 v7 : Int) (M : am_M) (h : XB_X9_goOn_53_6 c6 c9 v1 v4 v6 v7 M = some (x, M')) : am_R none 200 bk_X9_goOn 6 (am_wr [56, 1, 0, 0, 1, 0, 1, 1] [v1, v4, v6, v7]) [] SH M (am_rv (am_rk 200) x) SH M' :=
  vRegion (sc := none) (sh := SH) (F := F_X9_goOn_53) (k := 200) (bs := bk_X9_goOn) (r := (x, M')) (C := fun t lv st M => if t = 6 then vCt [56, 1, 0, 0, 1, 0, 1, 1] (un4 c6) lv st M else if t = 9 then vCt [56, 1, 0, 0, 0, 0, 0, 0] (un1 c9) lv st M else none) ok_X9_goOn fs_X9_goOn_53 (fun t lv st M h => by
    split at h
    · rename_i e; subst e; exact vCt_s (un4_s h6) h
    split at h
    · rename_i e; subst e; exact vCt_s (un1_s h9) h
    cases h) 12 6 (am_wr [56, 1, 0, 0, 1, 0, 1, 1] [v1, v4, v6, v7]) [] M h
noncomputable def XB_X9_goOn_53_9 (v1 : Int) (M : am_M) : am_Rs :=
  if 0 ≤ wI (v1 + 0) ∧ wI (v1 + 0) < 605 then
  if 0 ≤ wI (v1 + 0) ∧ wI (v1 + 0) < 605 then
   some (0, (am_up M 54 (wI (v1 + 0)).toNat ((M 54 (wI (v1 + 0)).toNat) + 1)))
   else none
  else none
set_option maxRecDepth 100000 in
theorem rs_X9_goOn_53_9 {x : Int} {M' : am_M} (v1 : Int) (M : am_M) (h : XB_X9_goOn_53_9 v1 M = some (x, M')) : am_R none 200 bk_X9_goOn 9 (am_wr [56, 1, 0, 0, 0, 0, 0, 0] [v1]) [] SH M (am_rv (am_rk 200) x) SH M' :=
  vRegion (sc := none) (sh := SH) (F := F_X9_goOn_53) (k := 200) (bs := bk_X9_goOn) (r := (x, M')) (C := fun t lv st M => none) ok_X9_goOn fs_X9_goOn_53 (fun t lv st M h => by
    cases h) 12 9 (am_wr [56, 1, 0, 0, 0, 0, 0, 0] [v1]) [] M h
noncomputable def XB_X9_goOn_53_e (c5 : Int → Int → Int → Int → Int → am_M → am_Rs) (v1 v2 v3 : Int) (M : am_M) : am_Rs :=
  if 0 ≤ wI (v1 + 0) ∧ wI (v1 + 0) < 605 then
  if 0 ≤ wI (v1 + 1) ∧ wI (v1 + 1) < 605 then
   (X_X9_behind_53 (M 54 (wI (v1 + 1)).toNat) (M 54 (wI (v1 + 0)).toNat) v2 v3 M).bind fun z1 =>
    if wI z1.1 = wI (M 54 (wI (v1 + 1)).toNat) then
     c5 v1 v2 v3 (M 54 (wI (v1 + 0)).toNat) z1.1 z1.2
    else if wI z1.1 < wI (M 54 (wI (v1 + 1)).toNat) then
     if 0 ≤ wI (((v1 + 4) + (3 * z1.1)) + 2) ∧ wI (((v1 + 4) + (3 * z1.1)) + 2) < 605 then
     if 0 ≤ wI (((v1 + 4) + (3 * z1.1)) + 2) ∧ wI (((v1 + 4) + (3 * z1.1)) + 2) < 605 then
      c5 v1 v2 v3 (M 54 (wI (v1 + 0)).toNat) z1.1 (am_up z1.2 54 (wI (((v1 + 4) + (3 * z1.1)) + 2)).toNat ((z1.2 54 (wI (((v1 + 4) + (3 * z1.1)) + 2)).toNat) + 1))
      else none
     else none
    else if 0 ≤ wI (((v1 + 4) + (3 * (M 54 (wI (v1 + 1)).toNat))) + 2) ∧ wI (((v1 + 4) + (3 * (M 54 (wI (v1 + 1)).toNat))) + 2) < 605 then
    if 0 ≤ wI (((v1 + 4) + (3 * (M 54 (wI (v1 + 1)).toNat))) + 2) ∧ wI (((v1 + 4) + (3 * (M 54 (wI (v1 + 1)).toNat))) + 2) < 605 then
     c5 v1 v2 v3 (M 54 (wI (v1 + 0)).toNat) z1.1 (am_up z1.2 54 (wI (((v1 + 4) + (3 * (M 54 (wI (v1 + 1)).toNat))) + 2)).toNat ((z1.2 54 (wI (((v1 + 4) + (3 * (M 54 (wI (v1 + 1)).toNat))) + 2)).toNat) + 1))
     else none
    else none
   else none
  else none
set_option maxRecDepth 100000 in
theorem rs_X9_goOn_53_e {x : Int} {M' : am_M} {c5 : Int → Int → Int → Int → Int → am_M → am_Rs} (h5 : ∀ w1 w2 w3 w4 w6 M, c5 w1 w2 w3 w4 w6 M = some (x, M') → am_R none 200 bk_X9_goOn 5 (am_wr [56, 1, 1, 1, 1, 0, 1, 0] [w1, w2, w3, w4, w6]) [] SH M (am_rv (am_rk 200) x) SH M') (v1 v2 v3 : Int) (M : am_M) (h : XB_X9_goOn_53_e c5 v1 v2 v3 M = some (x, M')) : am_R none 200 bk_X9_goOn 0 (am_ent 8 [.inr (.inr (some 53)), .inl v1, .inl v2, .inl v3]) [] SH M (am_rv (am_rk 200) x) SH M' :=
  vRegion (sc := none) (sh := SH) (F := F_X9_goOn_53) (k := 200) (bs := bk_X9_goOn) (r := (x, M')) (C := fun t lv st M => if t = 5 then vCt [56, 1, 1, 1, 1, 0, 1, 0] (un5 c5) lv st M else none) ok_X9_goOn fs_X9_goOn_53 (fun t lv st M h => by
    split at h
    · rename_i e; subst e; exact vCt_s (un5_s h5) h
    cases h) 12 0 (am_ent 8 [.inr (.inr (some 53)), .inl v1, .inl v2, .inl v3]) [] M h
noncomputable def XL_X9_goOn_53_6 (k9 : Int → am_M → am_Rs) : Nat → Int → Int → Int → Int → am_M → am_Rs
  | 0, _, _, _, _, _ => none
  | n + 1, v1, v4, v6, v7, M => XB_X9_goOn_53_6 (XL_X9_goOn_53_6 k9 n) k9 v1 v4 v6 v7 M
theorem ls_X9_goOn_53_6 {x : Int} {M' : am_M} {k9 : Int → am_M → am_Rs} (hk9 : ∀ w1 M, k9 w1 M = some (x, M') → am_R none 200 bk_X9_goOn 9 (am_wr [56, 1, 0, 0, 0, 0, 0, 0] [w1]) [] SH M (am_rv (am_rk 200) x) SH M') : ∀ (n : Nat) (v1 v4 v6 v7 : Int) (M : am_M), XL_X9_goOn_53_6 k9 n v1 v4 v6 v7 M = some (x, M') → am_R none 200 bk_X9_goOn 6 (am_wr [56, 1, 0, 0, 1, 0, 1, 1] [v1, v4, v6, v7]) [] SH M (am_rv (am_rk 200) x) SH M'
  | 0, v1, v4, v6, v7, M, h => by cases h
  | n + 1, v1, v4, v6, v7, M, h => rs_X9_goOn_53_6 (ls_X9_goOn_53_6 hk9 n) hk9 v1 v4 v6 v7 M h
noncomputable def X_X9_goOn_53 (v1 v2 v3 : Int) (M : am_M) : am_Rs := XB_X9_goOn_53_e (XB_X9_goOn_53_5 (XL_X9_goOn_53_6 (XB_X9_goOn_53_9) 1000)) v1 v2 v3 M
theorem dc_X9_goOn_53 (v1 v2 v3 : Int) (M M' : am_M) (x : Int) (h : X_X9_goOn_53 v1 v2 v3 M = some (x, M')) : am_Calls 200 [.inr (.inr (some 53)), .inl v1, .inl v2, .inl v3] SH M (am_rv (am_rk 200) x) SH M' :=
  am_enter pn_X9_goOn ml_X9_goOn rfl (Nat.le_of_ble_eq_true rfl) ⟨Nat.le_refl _, Nat.le_refl _⟩ (rs_X9_goOn_53_e (rs_X9_goOn_53_5 (ls_X9_goOn_53_6 (rs_X9_goOn_53_9) 1000)) v1 v2 v3 M h)
noncomputable def F_X9_day_53 : Nat → List am_V → am_M → am_Rs := fun k as M => if k = 200 then (match as with
  | [.inr (.inr (some 53)), .inl a1, .inl a2, .inl a3] => X_X9_goOn_53 a1 a2 a3 M
  | _ => none) else if k = 207 then (match as with
  | [.inl a0] => X_X9_isSaid a0 M
  | _ => none) else none
theorem fs_X9_day_53 : am_FS SH F_X9_day_53 := by
  intro k as M x M' h
  unfold F_X9_day_53 at h
  split at h
  · rename_i hk; subst hk
    split at h
    · exact dc_X9_goOn_53 _ _ _ _ _ _ h
    · cases h
  split at h
  · rename_i hk; subst hk
    split at h
    · exact dc_X9_isSaid _ _ _ _ h
    · cases h
  cases h
noncomputable def X_X9_day_53 (v1 v2 : Int) (M : am_M) : am_Rs :=
  (X_X9_isSaid v1 M).bind fun z1 =>
  if wI z1.1 = 0 then
   some ((-1), z1.2)
  else (X_X9_isSaid v2 z1.2).bind fun z2 =>
  if wI z2.1 = 0 then
   some ((-1), z2.2)
  else if wI (z2.2 53 1) = 0 then
   some ((-4), z2.2)
  else if wI (z2.2 54 0) = 40 then
   some ((-2), z2.2)
  else (X_X9_goOn_53 0 v1 v2 z2.2).bind fun z3 =>
  some (z3.2 54 1, z3.2)
set_option maxRecDepth 100000 in
theorem dc_X9_day_53 (v1 v2 : Int) (M M' : am_M) (x : Int) (h : X_X9_day_53 v1 v2 M = some (x, M')) : am_Calls 208 [.inr (.inr (some 53)), .inl v1, .inl v2] SH M (am_rv (am_rk 208) x) SH M' :=
  vCall (F := F_X9_day_53) (C := fun _ _ _ _ => none) (fu := 10) ok_X9_day pn_X9_day ml_X9_day rfl (Nat.le_of_ble_eq_true rfl) fs_X9_day_53 (fun _ _ _ _ h => by cases h) h
