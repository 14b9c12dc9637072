/-! New cells, copies, calls. -/
section AMC
variable {sc : Option (Nat × (Nat → Int))} {k pc : Nat} {lv : am_Lv} {st : List am_V} {sh : am_Sh} {M : am_M} {v : Option am_V} {sh' : am_Sh} {M' : am_M}
theorem am_sl_push (sh : am_Sh) (q : am_S) : am_sl (sh ++ [q]) = am_sl sh + q.2.1 := by simp [am_sl]
/-- behind a making: the new cell lies at the end -/
theorem am_made {q : am_S} {M2 : am_M} {pc2 : Nat} {e2 : va_E} {ca : am_Ca} (hM : ∀ a', a' < sh.length → M2 a' = M a') (hcap : sh.length + 1 ≤ sh'.length ∧ am_sl sh + q.2.1 ≤ am_sl sh') (h : am_At sc k pc2 lv (.inr (.inr (some sh.length)) :: st) (sh ++ [q]) M2 v sh' M')
    {p : Program} {l : Launch} {e : Env} {R : Room} {s : State} {m : MethodId} {args : Array Value} {below : List Frame} {meth : Method} {c : Code} {D : va_G} {base b n0 sl0 : Nat} {H : Heap} {locs : List Loc} {ls : Array Slot} {Q : State → Prop}
    (hcell : e2 = am_cell base ca M2 sh.length q) (hC : am_Cx sc k p R s m args meth c D ca base b n0 sl0 (sh'.length, am_sl sh')) (hS : am_St k s D ca base b n0 sl0 (sh'.length, am_sl sh') H locs ls lv sh M)
    (hQ : ∀ (pc : Nat) (H : Heap) (locs : List Loc) (ls : Array Slot) (lv : am_Lv), am_rets k pc v → am_St k s D ca base b n0 sl0 (sh'.length, am_sl sh') H locs ls lv sh' M' →
      W p l e R s m args below meth c H locs (sh'.length - n0) (am_sl sh' - sl0) Q (F0 m pc ls ((v.map (am_cv base b)).toList)))
    {q0 : Nat} {H1 : Heap} (hP1 : va_P D vwCl (am_ws base ca sh M ++ [(q0, e2)]) H1) (hD1 : va_D (fun q => base ≤ q) (am_ws base ca sh M ++ [(q0, e2)])) (hS1 : va_S (fun q => base ≤ q) H H1 locs) :
      W p l e R s m args below meth c H1 locs (sh.length - n0 + 1) (am_sl sh - sl0 + q.2.1) Q (F0 m pc2 ls (.ref q0 :: st.map (am_cv base b))) := by
  have hwl : (am_ws base ca sh M).length = sh.length := by simp [am_ws]
  have hlast : (am_ws base ca sh M ++ [(q0, e2)])[sh.length]? = some (q0, e2) := by
    rw [List.getElem?_append_right (by omega), hwl, Nat.sub_self]; rfl
  have hlt := (hP1 _ _ hlast).lt
  have hge : base ≤ q0 := hD1.2 _ _ hlast
  have hne : ∀ i, i < sh.length → q0 ≠ base + i := by
    intro i hi he
    have h1 : (am_ws base ca sh M ++ [(q0, e2)])[i]? = some (base + i, am_cell base ca M i sh[i]) := by
      rw [List.getElem?_append_left (by omega)]
      exact am_ws_get (List.getElem?_eq_getElem hi)
    have := hD1.1 _ _ _ _ hlast h1 he
    omega
  have hl1 : (sh ++ [q]).length = sh.length + 1 := by simp
  have hlen : sh.length - n0 + 1 = (sh ++ [q]).length - n0 := by have := hS.2.2.2.2.2.1; omega
  have hsl : am_sl sh - sl0 + q.2.1 = am_sl (sh ++ [q]) - sl0 := by rw [am_sl_push]; have := hS.2.2.2.2.2.2.1; omega
  intro T hT X
  have h2 := X.heapSize
  rw [hT] at h2
  have hs0 := hC.2.2.2.2.2.2.2.2.2.2.2.1
  have hn0 := hS.2.2.2.2.2.1
  have hq0 : q0 = base + sh.length := by
    rcases Nat.lt_or_ge (q0 - base) sh.length with h | h
    · exact absurd (by omega) (hne (q0 - base) h)
    · omega
  have hsz : H1.size = base + (sh ++ [q]).length := by rw [hl1]; omega
  refine (?_ : W p l e R s m args below meth c H1 locs (sh.length - n0 + 1) (am_sl sh - sl0 + q.2.1) Q (F0 m pc2 ls (.ref q0 :: st.map (am_cv base b)))) T hT X
  rw [hlen, hsl]
  subst hq0
  rw [am_ws_push hcell hM] at hP1
  exact h hC ⟨hS.1, hS.2.1, hsz, hP1, va_S_trans hS.2.2.2.2.1 hS1, by omega, by rw [am_sl_push]; have := hS.2.2.2.2.2.2.1; omega, by rw [hl1]; exact hcap.1, by rw [am_sl_push]; exact hcap.2⟩ hQ
theorem am_new {ix ci n : Nat} {C : String} {T : u_T} (hd : decode (am_cc k) pc = .ok (.new ix, 3)) (hc : vwCl[ci]? = some (C, T, n)) (hl : Cond.classLink (am_y k).cls ix C ∈ lw_g) (hi : Cond.instantiable C n ∈ lw_g) (hn : Cond.initialized C ∈ lw_g) (hcap : sh.length + 1 ≤ sh'.length ∧ am_sl sh + n ≤ am_sl sh')
    (h : am_At sc k (pc + 3) lv (.inr (.inr (some sh.length)) :: st) (sh ++ [(ci, n, List.replicate n none)]) (am_row M sh.length (fun _ => 0)) v sh' M') : am_At sc k pc lv st sh M v sh' M' := by
  intro p l e R s m args below meth c D ca base b n0 sl0 H locs ls Q hC hS hQ
  obtain ⟨hin, -, hnm⟩ := am_cls ci _ hc
  have hty := fun j (hj : j < n) => am_tyk_of hc hj
  have hts := hC.2.2.2.2.2.1
  have hsz0 := hC.2.2.2.2.2.2.2.2.2.2.2.1
  have hcl := hC.2.2.2.2.2.2.2.2.2.2.2.2.1
  have hsl := hC.2.2.2.2.2.2.2.2.2.2.2.2.2.1
  have hn0 := hS.2.2.2.2.2.1
  have hs0 := hS.2.2.2.2.2.2.1
  dsimp only at hcl hsl
  have hty2 : ∀ j, j < n → parseFieldDescriptor (T j).2.2.1 = some ((parseFieldDescriptor (T j).2.2.1).getD .int) := fun j hj => by
    obtain ⟨ty, h1, -⟩ := hty j hj; rw [h1]; rfl
  refine va_new (C := C) (T := T) (N := n) hC.1 hC.2.1 (fs := am_fs base (fun _ _ => 0) 0 (ci, n, List.replicate n none)) hts hin (fun j => (parseFieldDescriptor (T j).2.2.1).getD .int) hty2 hC.2.2.2.2.1 (hts _ hl) (hts _ hi) (hts _ hn) hC.2.2.2.2.2.2.2.2.2.2.1.1 hS.2.2.2.1 (am_D base ca sh M) (va_S_here hS.2.2.2.2.1) (fun q hq => ?_) hc (fun j hj => ?_) (by omega) (by omega) hd fun q0 H1 hP1 hD1 hS1 => ?_
  · have := hS.2.2.1
    show base ≤ q
    omega
  · obtain ⟨ty, h1, h2⟩ := hty j hj
    have h1' : parseFieldDescriptor (T j).2.2.1 = some ty := h1
    rw [h1']
    simp only [Option.getD_some, vp_V, List.getD_eq_getElem?_getD]
    rw [am_fs_get (q := (ci, n, List.replicate n none)) hj]
    simp only [Option.getD_some, am_fv]
    have hrr : (List.replicate n (none : Option Nat)).getD j none = none := by simp [List.getD_eq_getElem?_getD, hj]
    unfold am_tyk at h2
    split at h2 <;> first | (rw [beq_iff_eq] at h2; rw [h2]; simp [defaultValue, va_rf, hrr]; done) | (cases h2) | (rw [beq_iff_eq] at h2; rw [h2]; simp only [hrr]; rfl)
  · refine am_made (q := (ci, n, List.replicate n none)) (M2 := am_row M sh.length (fun _ => 0)) (fun a' h' => am_row_ne (by omega)) hcap h ?_ hC hS hQ hP1 hD1 hS1
    rw [am_obj (am_vw hc)]
    congr 2
    simp only [am_fs, am_row, if_true]
theorem am_ca {D : va_G} {ca : am_Ca} {s : State} {tys : List (ClassId × FieldType)} {cA : ClassId} {ty : FieldType} (h1 : va_K D vwCl (am_ty ca) s) (h2 : va_K D vwCl (tys ++ [(cA, ty)]) s) : (ty = .int → cA = ca.1) ∧ (ty = .long → cA = ca.2.1) ∧ (ty = .object "PaceBorder$Days" → cA = ca.2.2) := by
  have h3 : (tys ++ [(cA, ty)])[tys.length]? = some (cA, ty) := by rw [List.getElem?_append_right (Nat.le_refl _), Nat.sub_self]; rfl
  have h4 := (h2.2 _ _ h3).2
  refine ⟨fun e => ?_, fun e => ?_, fun e => ?_⟩
  · have h5 := (h1.2 0 (ca.1, .int) rfl).2
    subst e
    exact Option.some.inj (h4.symm.trans h5)
  · have h5 := (h1.2 1 (ca.2.1, .long) rfl).2
    subst e
    exact Option.some.inj (h4.symm.trans h5)
  · have h5 := (h1.2 2 (ca.2.2, .object "PaceBorder$Days") rfl).2
    subst e
    obtain ⟨_, _, _, _, _, g1⟩ := h4
    obtain ⟨_, _, _, _, _, g2⟩ := h5
    exact Option.some.inj (g1.symm.trans g2)
theorem am_newai {n : Int} (hd : decode (am_cc k) pc = .ok (.newarray .int, 2)) (hw : Cond.arrayClass .int ∈ lw_g) (hn : 0 ≤ wI n) (hb : (wI n).toNat * 8 ≤ 536870912) (hcap : sh.length + 1 ≤ sh'.length ∧ am_sl sh + (wI n).toNat ≤ am_sl sh')
    (h : am_At sc k (pc + 2) lv (.inr (.inr (some sh.length)) :: st) (sh ++ [(10, (wI n).toNat, [])]) (am_row M sh.length (fun _ => 0)) v sh' M') : am_At sc k pc lv (.inl n :: st) sh M v sh' M' := by
  intro p l e R s m args below meth c D ca base b n0 sl0 H locs ls Q hC hS hQ
  have hsz0 := hC.2.2.2.2.2.2.2.2.2.2.2.1
  have hcl := hC.2.2.2.2.2.2.2.2.2.2.2.2.1
  have hsl := hC.2.2.2.2.2.2.2.2.2.2.2.2.2.1
  have hn0 := hS.2.2.2.2.2.1
  have hs0 := hS.2.2.2.2.2.2.1
  dsimp only at hcl hsl
  refine va_newa (atype := .int) (N' := (wI n).toNat) (ty := .int) (a0 := ((wI n).toNat, .inl fun _ => Int32.ofInt 0)) hC.1 hC.2.1 (hC.2.2.2.2.2.1 _ hw) rfl hC.2.2.2.2.2.2.2.2.2.2.1.1 hS.2.2.2.1 (am_D base ca sh M) (va_S_here hS.2.2.2.2.1) (fun q hq => ?_) (fun cA => rfl) (by rw [← i_0, i_lt, wI_0]; omega) (i_cl n) (Nat.le_trans (Nat.mul_le_mul_left _ (by decide : componentBytes .int ≤ 8)) hb) (by omega) (by omega) hd fun q0 cA H1 hK1 hP1 hD1 hS1 => ?_
  · have := hS.2.2.1
    show base ≤ q
    omega
  · have e1 := (am_ca hC.2.2.2.2.2.2.2.2.2.2.1.1 hK1).1 rfl
    subst e1
    refine am_made (q := (10, (wI n).toNat, [])) (M2 := am_row M sh.length (fun _ => 0)) (fun a' h' => am_row_ne (by omega)) hcap h ?_ hC hS hQ hP1 hD1 hS1
    simp only [am_cell, am_row, if_true]
    rfl
theorem am_newal {n : Int} (hd : decode (am_cc k) pc = .ok (.newarray .long, 2)) (hw : Cond.arrayClass .long ∈ lw_g) (hn : 0 ≤ wI n) (hb : (wI n).toNat * 8 ≤ 536870912) (hcap : sh.length + 1 ≤ sh'.length ∧ am_sl sh + (wI n).toNat ≤ am_sl sh')
    (h : am_At sc k (pc + 2) lv (.inr (.inr (some sh.length)) :: st) (sh ++ [(11, (wI n).toNat, [])]) (am_row M sh.length (fun _ => 0)) v sh' M') : am_At sc k pc lv (.inl n :: st) sh M v sh' M' := by
  intro p l e R s m args below meth c D ca base b n0 sl0 H locs ls Q hC hS hQ
  have hsz0 := hC.2.2.2.2.2.2.2.2.2.2.2.1
  have hcl := hC.2.2.2.2.2.2.2.2.2.2.2.2.1
  have hsl := hC.2.2.2.2.2.2.2.2.2.2.2.2.2.1
  have hn0 := hS.2.2.2.2.2.1
  have hs0 := hS.2.2.2.2.2.2.1
  dsimp only at hcl hsl
  refine va_newa (atype := .long) (N' := (wI n).toNat) (ty := .long) (a0 := ((wI n).toNat, .inr (.inl fun _ => Int64.ofInt 0))) hC.1 hC.2.1 (hC.2.2.2.2.2.1 _ hw) rfl hC.2.2.2.2.2.2.2.2.2.2.1.1 hS.2.2.2.1 (am_D base ca sh M) (va_S_here hS.2.2.2.2.1) (fun q hq => ?_) (fun cA => rfl) (by rw [← i_0, i_lt, wI_0]; omega) (i_cl n) (Nat.le_trans (Nat.mul_le_mul_left _ (by decide : componentBytes .long ≤ 8)) hb) (by omega) (by omega) hd fun q0 cA H1 hK1 hP1 hD1 hS1 => ?_
  · have := hS.2.2.1
    show base ≤ q
    omega
  · have e1 := (am_ca hC.2.2.2.2.2.2.2.2.2.2.1.1 hK1).2.1 rfl
    subst e1
    refine am_made (q := (11, (wI n).toNat, [])) (M2 := am_row M sh.length (fun _ => 0)) (fun a' h' => am_row_ne (by omega)) hcap h ?_ hC hS hQ hP1 hD1 hS1
    simp only [am_cell, am_row, if_true]
    rfl
theorem am_newq {ix : Nat} {n : Int} (hd : decode (am_cc k) pc = .ok (.anewarray ix, 3)) (hw : Cond.classLink (am_y k).cls ix "PaceBorder$Days" ∈ lw_g) (hn : 0 ≤ wI n) (hb : (wI n).toNat * 8 ≤ 536870912) (hcap : sh.length + 1 ≤ sh'.length ∧ am_sl sh + (wI n).toNat ≤ am_sl sh')
    (h : am_At sc k (pc + 3) lv (.inr (.inr (some sh.length)) :: st) (sh ++ [(12, (wI n).toNat, List.replicate (wI n).toNat none)]) (am_row M sh.length (fun _ => 0)) v sh' M') : am_At sc k pc lv (.inl n :: st) sh M v sh' M' := by
  intro p l e R s m args below meth c D ca base b n0 sl0 H locs ls Q hC hS hQ
  have hsz0 := hC.2.2.2.2.2.2.2.2.2.2.2.1
  have hcl := hC.2.2.2.2.2.2.2.2.2.2.2.2.1
  have hsl := hC.2.2.2.2.2.2.2.2.2.2.2.2.2.1
  have hn0 := hS.2.2.2.2.2.1
  have hs0 := hS.2.2.2.2.2.2.1
  dsimp only at hcl hsl
  refine va_newq (N' := (wI n).toNat) hC.1 hC.2.1 hC.2.2.2.2.1 (hC.2.2.2.2.2.1 _ hw) hC.2.2.2.2.2.2.2.2.2.2.1.2.2 hC.2.2.2.2.2.2.2.2.2.2.1.1 hS.2.2.2.1 (am_D base ca sh M) (va_S_here hS.2.2.2.2.1) (fun q hq => ?_) (by rw [← i_0, i_lt, wI_0]; omega) (i_cl n) (by omega) (by omega) (by omega) hd fun q0 cA H1 hK1 hP1 hD1 hS1 => ?_
  · have := hS.2.2.1
    show base ≤ q
    omega
  · have e1 := (am_ca hC.2.2.2.2.2.2.2.2.2.2.1.1 hK1).2.2 rfl
    subst e1
    refine am_made (q := (12, (wI n).toNat, List.replicate (wI n).toNat none)) (M2 := am_row M sh.length (fun _ => 0)) (fun a' h' => am_row_ne (by omega)) hcap h ?_ hC hS hQ hP1 hD1 hS1
    simp only [am_cell]
    rw [if_neg (by omega), if_neg (by omega), if_neg (by omega)]
    congr 7
    funext j
    simp only [List.getD_eq_getElem?_getD, List.getElem?_replicate]
    split <;> rfl
end AMC
