/-! Fields, arrays, switches, ends. -/
section AMH
variable {sc : Option (Nat × (Nat → Int))} {k pc : Nat} {lv : am_Lv} {st : List am_V} {sh : am_Sh} {M : am_M} {v : Option am_V} {sh' : am_Sh} {M' : am_M}
theorem am_fs_get {base : Nat} {M : am_M} {a : Nat} {q : am_S} {j : Nat} (h : j < q.2.1) : (am_fs base M a q)[j]? = some (am_fv base (am_fk q.1 j) q.2.2 (M a j) j) := by
  simp [am_fs, h]
theorem am_obj {base : Nat} {ca : am_Ca} {M : am_M} {a : Nat} {q : am_S} (h : q.1 < 10) : am_cell base ca M a q = .inr (q.1, am_fs base M a q) := by simp [am_cell, h]
theorem am_vw {ci : Nat} {q : vw_C} (h : vwCl[ci]? = some q) : ci < 10 := (List.getElem?_eq_some_iff.mp h).1
theorem am_getv {ix j : Nat} {q : am_S} {C : String} {T : u_T} {n : Nat} {a : Nat} {w : am_V} (hd : decode (am_cc k) pc = .ok (.getfield ix, 3)) (hc : vwCl[q.1]? = some (C, T, n)) (hj : j < n) (hw : Cond.fieldLink (am_y k).cls ix (T j).1 (T j).2.1 (T j).2.2.1 ∈ lw_g) (ha : sh[a]? = some q) (hq : j < q.2.1)
    (hv : ∀ base b, am_fv base (am_fk q.1 j) q.2.2 (M a j) j = am_cv base b w) (h : am_At sc k (pc + 3) lv (w :: st) sh M v sh' M') : am_At sc k pc lv (.inr (.inr (some a)) :: st) sh M v sh' M' := by
  intro p l e R s m args below meth c D ca base b n0 sl0 H locs ls Q hC hS hQ
  have hg := am_ws_get (base := base) (ca := ca) (M := M) ha
  rw [am_obj (am_vw hc)] at hg
  exact va_get hC.1 hC.2.1 hC.2.2.2.2.2.1 (am_cls q.1 _ hc).1 hC.2.2.2.2.1 hC.2.2.2.2.2.2.2.2.2.2.1.1 hS.2.2.2.1 a hg hc j hj (hC.2.2.2.2.2.1 _ hw) (fun x hx => hx) (by rw [am_fs_get hq, hv base b]) hd (h hC hS hQ)
theorem am_cell_up {base : Nat} {ca : am_Ca} {M : am_M} {a j : Nat} {x : Int} {q : am_S} (h : q.1 < 10) (hk : am_fk q.1 j = 2 → False) (hj : j < q.2.1) {w : Value} (hw : w = am_fv base (am_fk q.1 j) q.2.2 x j) : (.inr (q.1, (am_fs base M a q).set j w) : va_E) = am_cell base ca (am_up M a j x) a q := by
  rw [am_obj h]
  congr 2
  apply List.ext_getElem?
  intro i
  by_cases hi : i = j
  · subst hi
    rw [List.getElem?_set_self (by simpa [am_fs] using hj), am_fs_get hj, hw]
    simp [am_up]
  · rw [List.getElem?_set_ne (fun h => hi h.symm)]
    by_cases hl : i < q.2.1
    · rw [am_fs_get hl, am_fs_get hl]; simp [am_up, hi]
    · rw [List.getElem?_eq_none (by simpa [am_fs] using hl), List.getElem?_eq_none (by simpa [am_fs] using hl)]
theorem am_cell_ref {base : Nat} {ca : am_Ca} {M : am_M} {a j r : Nat} {q : am_S} (h : q.1 < 10) (hk : am_fk q.1 j = 2) (hj : j < q.2.1) (hr : j < q.2.2.length) : (.inr (q.1, (am_fs base M a q).set j (.ref (base + r))) : va_E) = am_cell base ca M a (q.1, q.2.1, q.2.2.set j (some r)) := by
  rw [am_obj (q := (q.1, q.2.1, q.2.2.set j (some r))) h]
  congr 2
  apply List.ext_getElem?
  intro i
  by_cases hi : i = j
  · subst hi
    rw [List.getElem?_set_self (by simpa [am_fs] using hj), am_fs_get (q := (q.1, q.2.1, q.2.2.set i (some r))) hj]
    simp [am_fv, hk, hr, va_rf]
  · rw [List.getElem?_set_ne (fun h => hi h.symm)]
    by_cases hl : i < q.2.1
    · rw [am_fs_get hl, am_fs_get (q := (q.1, q.2.1, q.2.2.set j (some r))) hl]
      congr 1
      simp only [am_fv, List.getD_eq_getElem?_getD, List.getElem?_set_ne (fun h => hi h.symm : j ≠ i)]
    · rw [List.getElem?_eq_none (by simpa [am_fs] using hl), List.getElem?_eq_none (by simpa [am_fs] using hl)]
/-- a field's store: the value fits, its cell becomes that of sh2, M2 -/
theorem am_putv {ix j : Nat} {q q2 : am_S} {C : String} {T : u_T} {n : Nat} {a : Nat} {w : am_V} {M2 : am_M} (hd : decode (am_cc k) pc = .ok (.putfield ix, 3)) (hc : vwCl[q.1]? = some (C, T, n)) (hj : j < n) (hw : Cond.fieldLink (am_y k).cls ix (T j).1 (T j).2.1 (T j).2.2.1 ∈ lw_g) (ha : sh[a]? = some q) (hq : j < q.2.1)
    (hfin : (T j).2.2.2 = false ∨ (T j).2.2.2 = true ∧ (am_y k).name = "<init>" ∧ (T j).1 = (am_y k).cls)
    (hfit : ∀ base b ty, parseFieldDescriptor (T j).2.2.1 = some ty → narrow ty (am_cv base b w) = am_cv base b w ∧ fits ty (am_cv base b w) = true)
    (hcell : ∀ base ca b, (.inr (q.1, (am_fs base M a q).set j (am_cv base b w)) : va_E) = am_cell base ca M2 a q2) (hM : ∀ a', a' ≠ a → M2 a' = M a') (hl2 : q2.2.1 = q.2.1)
    (h : am_At sc k (pc + 3) lv st (sh.set a q2) M2 v sh' M') : am_At sc k pc lv (w :: .inr (.inr (some a)) :: st) sh M v sh' M' := by
  intro p l e R s m args below meth c D ca base b n0 sl0 H locs ls Q hC hS hQ
  have hg := am_ws_get (base := base) (ca := ca) (M := M) ha
  rw [am_obj (am_vw hc)] at hg
  obtain ⟨hin, ⟨ty0, hty⟩, hnm⟩ := am_cls q.1 _ hc
  obtain ⟨hf1, hf2⟩ := hfit base b (ty0 j) (hty j hj)
  have hlen : (sh.set a q2).length = sh.length := List.length_set
  have hsl : am_sl (sh.set a q2) = am_sl sh := by
    have h1 : (sh.set a q2).map (fun q => q.2.1) = sh.map (fun q => q.2.1) := by
      apply List.ext_getElem?
      intro i
      simp only [List.getElem?_map]
      by_cases hi : i = a
      · subst hi
        rw [List.getElem?_set_self (List.getElem?_eq_some_iff.mp ha).1, ha]; simp [hl2]
      · rw [List.getElem?_set_ne (fun h => hi h.symm)]
    unfold am_sl; rw [h1]
  have go : ∀ (H1 : Heap) (locs1 : List Loc), va_P D vwCl ((am_ws base ca sh M).set a (base + a, .inr (q.1, (am_fs base M a q).set j (am_cv base b w)))) H1 → va_D (fun q => base ≤ q) ((am_ws base ca sh M).set a (base + a, .inr (q.1, (am_fs base M a q).set j (am_cv base b w)))) → va_S (fun q => base ≤ q) H H1 locs1 →
      W p l e R s m args below meth c H1 locs1 (sh.length - n0) (am_sl sh - sl0) Q (F0 m (pc + 3) ls (st.map (am_cv base b))) := by
    intro H1 locs1 hP1 hD1 hS1
    rw [am_ws_set ha rfl (hcell base ca b) hM] at hP1
    refine am_exact hC.2.2.2.2.2.2.2.2.2.2.2.1 hS.2.2.2.2.2.1 (by have := hS1.1; have := hS.2.2.1; omega) fun hsz => ?_
    rw [← hlen, ← hsl]
    exact h hC ⟨hS.1, hS.2.1, by rw [hlen]; exact hsz, hP1, va_S_trans hS.2.2.2.2.1 hS1, by rw [hlen]; exact hS.2.2.2.2.2.1, by rw [hsl]; exact hS.2.2.2.2.2.2.1, by rw [hlen]; exact hS.2.2.2.2.2.2.2.1, by rw [hsl]; exact hS.2.2.2.2.2.2.2.2⟩ hQ
  have hfl : j < (am_fs base M a q).length := by simpa [am_fs] using hq
  rcases hfin with hfin | ⟨hfin, hi, ho⟩
  · exact va_put hC.1 hC.2.1 hC.2.2.2.2.2.1 hin ty0 hty hnm hC.2.2.2.2.1 hC.2.2.2.2.2.2.2.2.2.2.1.1 hS.2.2.2.1 (am_D base ca sh M) (va_S_here hS.2.2.2.2.1) a hg hc j hj (hC.2.2.2.2.2.1 _ hw) (fun x hx => hx) hfin (hty j hj) hf1 hf2 hfl hd go
  · exact va_putF hC.1 hC.2.1 hC.2.2.2.2.2.1 hin ty0 hty hnm hC.2.2.2.2.1 hC.2.2.2.2.2.2.2.2.2.2.1.1 hS.2.2.2.1 (am_D base ca sh M) (va_S_here hS.2.2.2.2.1) a hg hc j hj (hC.2.2.2.2.2.1 _ hw) (fun x hx => hx) hfin (hC.2.2.2.2.2.2.2.1.trans hi) ho (hty j hj) hf1 hf2 hfl hd go
theorem am_iald {a n : Nat} {i : Int} {rs : List (Option Nat)} (hd : decode (am_cc k) pc = .ok (.iaload, 1)) (ha : sh[a]? = some (10, n, rs)) (hi : 0 ≤ wI i ∧ wI i < n) (h : am_At sc k (pc + 1) lv (.inl (M a (wI i).toNat) :: st) sh M v sh' M') : am_At sc k pc lv (.inl i :: .inr (.inr (some a)) :: st) sh M v sh' M' := by
  intro p l e R s m args below meth c D ca base b n0 sl0 H locs ls Q hC hS hQ
  have hg := am_ws_get (base := base) (ca := ca) (M := M) ha
  refine va_iald hC.1 hC.2.1 hC.2.2.2.2.2.2.2.2.2.2.1.1 hS.2.2.2.1 a 0 (f := fun j => Int32.ofInt (M a j)) hg rfl ((i_in i n).mpr hi) hd ?_
  have h1 := h hC hS hQ
  rw [i_cl]; exact h1
theorem am_lald {a n : Nat} {i : Int} {rs : List (Option Nat)} (hd : decode (am_cc k) pc = .ok (.laload, 1)) (ha : sh[a]? = some (11, n, rs)) (hi : 0 ≤ wI i ∧ wI i < n) (h : am_At sc k (pc + 1) lv (.inr (.inl (M a (wI i).toNat)) :: st) sh M v sh' M') : am_At sc k pc lv (.inl i :: .inr (.inr (some a)) :: st) sh M v sh' M' := by
  intro p l e R s m args below meth c D ca base b n0 sl0 H locs ls Q hC hS hQ
  have hg := am_ws_get (base := base) (ca := ca) (M := M) ha
  refine va_lald hC.1 hC.2.1 hC.2.2.2.2.2.2.2.2.2.2.1.1 hS.2.2.2.1 a 1 (f := fun j => Int64.ofInt (M a j)) hg rfl ((i_in i n).mpr hi) hd ?_
  have h1 := h hC hS hQ
  rw [i_cl]; exact h1
theorem am_aald {a n r : Nat} {i : Int} {rs : List (Option Nat)} (hd : decode (am_cc k) pc = .ok (.aaload, 1)) (ha : sh[a]? = some (12, n, rs)) (hi : 0 ≤ wI i ∧ wI i < n) (hr : rs.getD (wI i).toNat none = some r) (h : am_At sc k (pc + 1) lv (.inr (.inr (some r)) :: st) sh M v sh' M') : am_At sc k pc lv (.inl i :: .inr (.inr (some a)) :: st) sh M v sh' M' := by
  intro p l e R s m args below meth c D ca base b n0 sl0 H locs ls Q hC hS hQ
  have hg := am_ws_get (base := base) (ca := ca) (M := M) ha
  refine va_aldq hC.1 hC.2.1 hC.2.2.2.2.2.2.2.2.2.2.1.1 hS.2.2.2.1 a 2 (C := "PaceBorder$Days") (f := fun j => (rs.getD j none).map (base + ·)) hg rfl ((i_in i n).mpr hi) hd ?_
  have h1 := h hC hS hQ
  rw [i_cl]
  simp only [hr]
  exact h1
/-- an array's store -/
theorem am_ast {a : Nat} {q q2 : am_S} {M2 : am_M} {e2 : Nat → am_Ca → va_E} (ha : sh[a]? = some q) (hcell : ∀ base ca, e2 base ca = am_cell base ca M2 a q2) (hM : ∀ a', a' ≠ a → M2 a' = M a') (hl2 : q2.2.1 = q.2.1)
    (h : am_At sc k (pc + 1) lv st (sh.set a q2) M2 v sh' M') {p : Program} {l : Launch} {e : Env} {R : Room} {s : State} {m : MethodId} {args : Array Value} {below : List Frame} {meth : Method} {c : Code} {D : va_G} {ca : am_Ca} {base b n0 sl0 : Nat} {H : Heap} {locs : List Loc} {ls : Array Slot} {Q : State → Prop}
    (hC : am_Cx sc k p R s m args meth c D ca base b n0 sl0 (sh'.length, am_sl sh')) (hS : am_St k s D ca base b n0 sl0 (sh'.length, am_sl sh') H locs ls lv sh M)
    (hQ : ∀ (pc : Nat) (H : Heap) (locs : List Loc) (ls : Array Slot) (lv : am_Lv), am_rets k pc v → am_St k s D ca base b n0 sl0 (sh'.length, am_sl sh') H locs ls lv sh' M' →
      W p l e R s m args below meth c H locs (sh'.length - n0) (am_sl sh' - sl0) Q (F0 m pc ls ((v.map (am_cv base b)).toList))) :
    ∀ (H1 : Heap) (locs1 : List Loc), va_P D vwCl ((am_ws base ca sh M).set a (base + a, e2 base ca)) H1 → va_D (fun q => base ≤ q) ((am_ws base ca sh M).set a (base + a, e2 base ca)) → va_S (fun q => base ≤ q) H H1 locs1 →
      W p l e R s m args below meth c H1 locs1 (sh.length - n0) (am_sl sh - sl0) Q (F0 m (pc + 1) ls (st.map (am_cv base b))) := by
  intro H1 locs1 hP1 hD1 hS1
  have hlen : (sh.set a q2).length = sh.length := List.length_set
  have hsl : am_sl (sh.set a q2) = am_sl sh := by
    have h1 : (sh.set a q2).map (fun q => q.2.1) = sh.map (fun q => q.2.1) := by
      apply List.ext_getElem?
      intro i
      simp only [List.getElem?_map]
      by_cases hi : i = a
      · subst hi
        rw [List.getElem?_set_self (List.getElem?_eq_some_iff.mp ha).1, ha]; simp [hl2]
      · rw [List.getElem?_set_ne (fun h => hi h.symm)]
    unfold am_sl; rw [h1]
  rw [am_ws_set ha rfl (hcell base ca) hM] at hP1
  refine am_exact hC.2.2.2.2.2.2.2.2.2.2.2.1 hS.2.2.2.2.2.1 (by have := hS1.1; have := hS.2.2.1; omega) fun hsz => ?_
  rw [← hlen, ← hsl]
  exact h hC ⟨hS.1, hS.2.1, by rw [hlen]; exact hsz, hP1, va_S_trans hS.2.2.2.2.1 hS1, by rw [hlen]; exact hS.2.2.2.2.2.1, by rw [hsl]; exact hS.2.2.2.2.2.2.1, by rw [hlen]; exact hS.2.2.2.2.2.2.2.1, by rw [hsl]; exact hS.2.2.2.2.2.2.2.2⟩ hQ
theorem am_setself {a : Nat} {q : am_S} (h : sh[a]? = some q) : sh.set a q = sh := by
  apply List.ext_getElem?
  intro i
  by_cases hi : i = a
  · subst hi; rw [List.getElem?_set_self (List.getElem?_eq_some_iff.mp h).1, h]
  · rw [List.getElem?_set_ne (fun h => hi h.symm)]
theorem am_iast {a n : Nat} {i x : Int} {rs : List (Option Nat)} (hd : decode (am_cc k) pc = .ok (.iastore, 1)) (ha : sh[a]? = some (10, n, rs)) (hi : 0 ≤ wI i ∧ wI i < n) (h : am_At sc k (pc + 1) lv st sh (am_up M a (wI i).toNat x) v sh' M') : am_At sc k pc lv (.inl x :: .inl i :: .inr (.inr (some a)) :: st) sh M v sh' M' := by
  intro p l e R s m args below meth c D ca base b n0 sl0 H locs ls Q hC hS hQ
  have hg := am_ws_get (base := base) (ca := ca) (M := M) ha
  refine va_iast hC.1 hC.2.1 hC.2.2.2.2.2.2.2.2.2.2.1.1 hS.2.2.2.1 (am_D base ca sh M) (va_S_here hS.2.2.2.2.1) a 0 (f := fun j => Int32.ofInt (M a j)) hg rfl ((i_in i n).mpr hi) hd ?_
  rw [← am_setself ha] at h
  refine am_ast (e2 := fun base ca => .inl (ca.1, n, .inl (upd (fun j => Int32.ofInt (M a j)) (Int32.ofInt i).toNatClampNeg (Int32.ofInt x)))) ha (fun base ca => ?_) (fun a' h' => am_up_ne h') rfl h hC hS hQ
  simp only [am_cell]
  rw [if_neg (by omega), if_pos trivial, i_cl]
  congr 4
  funext j
  simp only [upd, am_up, if_true]
  split <;> rfl
theorem am_last {a n : Nat} {i x : Int} {rs : List (Option Nat)} (hd : decode (am_cc k) pc = .ok (.lastore, 1)) (ha : sh[a]? = some (11, n, rs)) (hi : 0 ≤ wI i ∧ wI i < n) (h : am_At sc k (pc + 1) lv st sh (am_up M a (wI i).toNat x) v sh' M') : am_At sc k pc lv (.inr (.inl x) :: .inl i :: .inr (.inr (some a)) :: st) sh M v sh' M' := by
  intro p l e R s m args below meth c D ca base b n0 sl0 H locs ls Q hC hS hQ
  have hg := am_ws_get (base := base) (ca := ca) (M := M) ha
  refine va_last hC.1 hC.2.1 hC.2.2.2.2.2.2.2.2.2.2.1.1 hS.2.2.2.1 (am_D base ca sh M) (va_S_here hS.2.2.2.2.1) a 1 (f := fun j => Int64.ofInt (M a j)) hg rfl ((i_in i n).mpr hi) hd ?_
  rw [← am_setself ha] at h
  refine am_ast (e2 := fun base ca => .inl (ca.2.1, n, .inr (.inl (vp_updL (fun j => Int64.ofInt (M a j)) (Int32.ofInt i).toNatClampNeg (Int64.ofInt x))))) ha (fun base ca => ?_) (fun a' h' => am_up_ne h') rfl h hC hS hQ
  simp only [am_cell]
  rw [if_neg (by omega), if_neg (by omega), if_pos trivial, i_cl]
  congr 5
  funext j
  simp only [vp_updL, am_up, if_true]
  split <;> rfl
theorem am_aast {a n r : Nat} {i : Int} {rs : List (Option Nat)} {qv : am_S} (hd : decode (am_cc k) pc = .ok (.aastore, 1)) (ha : sh[a]? = some (12, n, rs)) (hi : 0 ≤ wI i ∧ wI i < n) (hl : (wI i).toNat < rs.length) (hr : sh[r]? = some qv) (hq : qv.1 = 1) (h : am_At sc k (pc + 1) lv st (sh.set a (12, n, rs.set (wI i).toNat (some r))) M v sh' M') : am_At sc k pc lv (.inr (.inr (some r)) :: .inl i :: .inr (.inr (some a)) :: st) sh M v sh' M' := by
  intro p l e R s m args below meth c D ca base b n0 sl0 H locs ls Q hC hS hQ
  have hg := am_ws_get (base := base) (ca := ca) (M := M) ha
  have hg2 := am_ws_get (base := base) (ca := ca) (M := M) hr
  rw [am_obj (by omega)] at hg2
  refine va_astq hC.1 hC.2.1 hC.2.2.2.2.2.2.2.2.2.2.1.1 hS.2.2.2.1 (am_D base ca sh M) (va_S_here hS.2.2.2.2.1) a 2 r qv.1 (r := (RX1, TX1, 8)) (f := fun j => (rs.getD j none).map (base + ·)) hg rfl hg2 (by rw [hq]; rfl) ((i_in i n).mpr hi) hd ?_
  refine am_ast (q2 := (12, n, rs.set (wI i).toNat (some r))) (e2 := fun base ca => .inl (ca.2.2, n, .inr (.inr (.inr (.inr (va_up (fun j => (rs.getD j none).map (base + ·)) (Int32.ofInt i).toNatClampNeg (some (base + r)))))))) ha (fun base ca => ?_) (fun a' h' => rfl) rfl h hC hS hQ
  simp only [am_cell]
  rw [if_neg (by omega), if_neg (by omega), if_neg (by omega), i_cl]
  congr 7
  funext j
  simp only [va_up]
  by_cases hj : j = (wI i).toNat
  · subst hj; simp [hl]
  · simp only [hj, if_false, List.getD_eq_getElem?_getD, List.getElem?_set_ne (fun h => hj h.symm : (wI i).toNat ≠ j)]
theorem am_alen {a n : Nat} {q : am_S} (hd : decode (am_cc k) pc = .ok (.arraylength, 1)) (ha : sh[a]? = some q) (hq : q.1 = 10 ∨ q.1 = 11) (h : am_At sc k (pc + 1) lv (.inl (q.2.1 : Int) :: st) sh M v sh' M') : am_At sc k pc lv (.inr (.inr (some a)) :: st) sh M v sh' M' := by
  intro p l e R s m args below meth c D ca base b n0 sl0 H locs ls Q hC hS hQ
  have hg := am_ws_get (base := base) (ca := ca) (M := M) ha
  obtain ⟨kd, n, rs⟩ := q
  rcases hq with rfl | rfl
  · exact va_alen hC.1 hC.2.1 hC.2.2.2.2.2.2.2.2.2.2.1.1 hS.2.2.2.1 a 0 (x := (n, .inl fun j => Int32.ofInt (M a j))) hg rfl (v := Int32.ofInt (n : Int)) rfl hd (h hC hS hQ)
  · exact va_alen hC.1 hC.2.1 hC.2.2.2.2.2.2.2.2.2.2.1.1 hS.2.2.2.1 a 1 (x := (n, .inr (.inl fun j => Int64.ofInt (M a j)))) hg rfl (v := Int32.ofInt (n : Int)) rfl hd (h hC hS hQ)
theorem am_sld {i : Int} {c0 : Nat × (Nat → Int)} (hd : decode (am_cc k) pc = .ok (.iaload, 1)) (hs : sc = some c0) (hi : 0 ≤ wI i ∧ wI i < c0.1) (h : am_At sc k (pc + 1) lv (.inl (c0.2 (wI i).toNat) :: st) sh M v sh' M') : am_At sc k pc lv (.inl i :: .inr (.inr none) :: st) sh M v sh' M' := by
  intro p l e R s m args below meth c D ca base b n0 sl0 H locs ls Q hC hS hQ
  obtain ⟨hX, hb, hsz⟩ := hC.2.2.2.2.2.2.2.2.2.2.2.2.2.2 c0 hs
  have hsz0 := hC.2.2.2.2.2.2.2.2.2.2.2.1
  refine va_sld hC.1 hC.2.1 hX (by omega) (A := fun q => base ≤ q) (by omega) hS.2.2.2.2.1 ((i_in i c0.1).mpr hi) hd ?_
  have h1 := h hC hS hQ
  rw [i_cl]; exact h1
theorem am_slen {c0 : Nat × (Nat → Int)} (hd : decode (am_cc k) pc = .ok (.arraylength, 1)) (hs : sc = some c0) (h : am_At sc k (pc + 1) lv (.inl (c0.1 : Int) :: st) sh M v sh' M') : am_At sc k pc lv (.inr (.inr none) :: st) sh M v sh' M' := by
  intro p l e R s m args below meth c D ca base b n0 sl0 H locs ls Q hC hS hQ
  obtain ⟨hX, hb, hsz⟩ := hC.2.2.2.2.2.2.2.2.2.2.2.2.2.2 c0 hs
  have hsz0 := hC.2.2.2.2.2.2.2.2.2.2.2.1
  exact va_slen hC.1 hC.2.1 hX (by omega) (A := fun q => base ≤ q) (by omega) hS.2.2.2.2.1 hd (h hC hS hQ)
theorem am_tsw {d lo hi : Int} {offs : Array Int} {len t : Nat} {ts : List Nat} {x : Int} {tp : Nat → Nat} (hd : decode (am_cc k) pc = .ok (.tableswitch d lo hi offs, len)) (h0 : (pc : Int) + d = tp t) (hn : hi = lo + ts.length - 1) (ho : ∀ j t : Nat, ts[j]? = some t → ∃ off, offs[j]? = some off ∧ (pc : Int) + off = tp t)
    (h1 : (wI x < lo ∨ hi < wI x) → am_At sc k (tp t) lv st sh M v sh' M') (h2 : ∀ j t : Nat, ts[j]? = some t → wI x = lo + j → am_At sc k (tp t) lv st sh M v sh' M') : am_At sc k pc lv (.inl x :: st) sh M v sh' M' := by
  intro p l e R s m args below meth c D ca base b n0 sl0 H locs ls Q hC hS hQ
  by_cases hx : wI x < lo ∨ hi < wI x
  · exact lv_tableOut hC.1 hC.2.1 hd (by rw [wI_toInt]; exact hx) h0 (h1 hx hC hS hQ)
  · have hj : (wI x - lo).toNat < ts.length := by omega
    obtain ⟨t2, ht2⟩ : ∃ t2, ts[(wI x - lo).toNat]? = some t2 := ⟨_, List.getElem?_eq_getElem hj⟩
    obtain ⟨off, e1, e2⟩ := ho _ _ ht2
    exact lv_tableIn hC.1 hC.2.1 hd (by rw [wI_toInt]; omega) (by rw [wI_toInt]; omega) (by rw [wI_toInt]; exact e1) e2 (h2 _ _ ht2 (by omega) hC hS hQ)
theorem am_ret (hr : am_rets k pc v) : am_At sc k pc lv v.toList sh M v sh M := by
  intro p l e R s m args below meth c D ca base b n0 sl0 H locs ls Q hC hS hQ
  have h1 := hQ pc H locs ls lv hr hS
  cases v <;> exact h1
end AMH
