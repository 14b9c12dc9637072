/-! Copies and calls. -/
section AMR
variable {sc : Option (Nat × (Nat → Int))} {k pc : Nat} {lv : am_Lv} {st : List am_V} {sh : am_Sh} {M : am_M} {v : Option am_V} {sh' : am_Sh} {M' : am_M}
theorem am_setself2 {sh : am_Sh} {a : Nat} {q : am_S} (h : sh[a]? = some q) : sh.set a q = sh := by
  apply List.ext_getElem?
  intro i
  by_cases hi : i = a
  · subst hi; rw [List.getElem?_set_self (List.getElem?_eq_some_iff.mp h).1, h]
  · rw [List.getElem?_set_ne (fun h => hi h.symm)]
theorem am_back {a : Nat} {q : am_S} {M2 : am_M} {e2 : Nat → am_Ca → va_E} {pc2 : Nat} (ha : sh[a]? = some q) (hcell : ∀ base ca, e2 base ca = am_cell base ca M2 a q) (hM : ∀ a', a' ≠ a → M2 a' = M a')
    (h : am_At sc k pc2 lv st sh M2 v sh' M') {p : Program} {l : Launch} {e : Env} {R : Room} {s : State} {m : MethodId} {args : Array Value} {below : List Frame} {meth : Method} {c : Code} {D : va_G} {ca : am_Ca} {base b n0 sl0 : Nat} {H : Heap} {locs : List Loc} {ls : Array Slot} {Q : State → Prop}
    (hC : am_Cx sc k p R s m args meth c D ca base b n0 sl0 (sh'.length, am_sl sh')) (hS : am_St k s D ca base b n0 sl0 (sh'.length, am_sl sh') H locs ls lv sh M)
    (hQ : ∀ (pc : Nat) (H : Heap) (locs : List Loc) (ls : Array Slot) (lv : am_Lv), am_rets k pc v → am_St k s D ca base b n0 sl0 (sh'.length, am_sl sh') H locs ls lv sh' M' →
      W p l e R s m args below meth c H locs (sh'.length - n0) (am_sl sh' - sl0) Q (F0 m pc ls ((v.map (am_cv base b)).toList))) :
    ∀ (H1 : Heap) (locs1 : List Loc), va_P D vwCl ((am_ws base ca sh M).set a (base + a, e2 base ca)) H1 → va_D (fun q => base ≤ q) ((am_ws base ca sh M).set a (base + a, e2 base ca)) → va_S (fun q => base ≤ q) H H1 locs1 →
      W p l e R s m args below meth c H1 locs1 (sh.length - n0) (am_sl sh - sl0) Q (F0 m pc2 ls (st.map (am_cv base b))) := by
  intro H1 locs1 hP1 hD1 hS1
  rw [am_ws_setM ha (hcell base ca) hM] at hP1
  refine am_exact hC.2.2.2.2.2.2.2.2.2.2.2.1 hS.2.2.2.2.2.1 (by have := hS1.1; have := hS.2.2.1; omega) fun hsz => ?_
  exact h hC ⟨hS.1, hS.2.1, hsz, hP1, va_S_trans hS.2.2.2.2.1 hS1, hS.2.2.2.2.2⟩ hQ
theorem am_copy {ix s0 d : Nat} {q0 q1 : am_S} {sp dp n : Int} (hd : decode (am_cc k) pc = .ok (.invokestatic ix, 3)) (hl : Cond.methodLink (am_y k).cls ix arraycopyName ∈ lw_g) (hnat : Cond.native arraycopyName ∈ lw_g) (hst : Cond.static arraycopyName ∈ lw_g) (hin : Cond.initialized "java/lang/System" ∈ lw_g) (hfr : 1 ≤ am_fr k) (hlc : 26 ≤ am_lc k)
    (h0 : sh[s0]? = some q0) (h1 : sh[d]? = some q1) (hk : q0.1 = 10 ∧ q1.1 = 10 ∨ q0.1 = 11 ∧ q1.1 = 11) (hr : 0 ≤ wI sp ∧ 0 ≤ wI dp ∧ 0 ≤ wI n ∧ wI sp + wI n ≤ q0.2.1 ∧ wI dp + wI n ≤ q1.2.1) (hcat : am_cats st ≤ 8)
    (h : am_At sc k (pc + 3) lv st sh (am_cpy M s0 d (wI sp).toNat (wI dp).toNat (wI n).toNat) v sh' M') : am_At sc k pc lv (.inl n :: .inl dp :: .inr (.inr (some d)) :: .inl sp :: .inr (.inr (some s0)) :: st) sh M v sh' M' := by
  intro p l e R s m args below meth c D ca base b n0 sl0 H locs ls Q hC hS hQ
  have hg0 := am_ws_get (base := base) (ca := ca) (M := M) h0
  have hg1 := am_ws_get (base := base) (ca := ca) (M := M) h1
  obtain ⟨k0, m0, r0⟩ := q0
  obtain ⟨k1, m1, r1⟩ := q1
  dsimp only at hk hr
  have hts := hC.2.2.2.2.2.1
  have hfr2 := hC.2.2.2.2.2.2.2.2.1
  have hlc2 := hC.2.2.2.2.2.2.2.2.2.1
  have hfw : nativeFrameWords "java/lang/System" "arraycopy" 5 = 7 := by decide
  have hpos : ∀ {z : Int}, 0 ≤ wI z → ¬ Int32.ofInt z < 0 := fun {z} hz => by rw [← i_0, i_lt, wI_0]; omega
  have hsum : ((st.map (am_cv base b)).map fun v => v.category).sum ≤ 8 := by rw [am_cats_eq]; exact hcat
  rcases hk with ⟨rfl, rfl⟩ | ⟨rfl, rfl⟩
  · refine va_copyi (n0 := m0) (n1 := m1) hC.1 hC.2.1 (hC.2.2.2.1.trans hS.1.1.symm) hC.2.2.2.2.1 (hts _ hl) (hts _ hnat) (hts _ hst) (hts _ hin) hC.2.2.2.2.2.2.2.2.2.2.1.1 hS.2.2.2.1 (am_D base ca sh M) (va_S_here hS.2.2.2.2.1) s0 d 0 0 (f := fun j => Int32.ofInt (M s0 j)) (g := fun j => Int32.ofInt (M d j)) hg0 hg1 rfl rfl rfl (hpos hr.1) (hpos hr.2.1) (hpos hr.2.2.1) (by simp only [i_cl]; omega) (by simp only [i_cl]; omega) (fun i _ => rfl) (by omega) (by rw [hfw]; omega) hd ?_
    refine am_back (e2 := fun base ca => .inl (ca.1, m1, .inl (va_cpy (fun j => Int32.ofInt (M s0 j)) (fun j => Int32.ofInt (M d j)) (Int32.ofInt sp).toNatClampNeg (Int32.ofInt dp).toNatClampNeg (Int32.ofInt n).toNatClampNeg))) h1 (fun base ca => ?_) (fun a' h' => am_row_ne h') h hC hS hQ
    simp only [am_cell]
    rw [if_neg (by omega), if_pos trivial, i_cl, i_cl, i_cl]
    congr 4
    funext j
    simp only [va_cpy, am_cpy, am_row, if_true]
    split <;> rfl
  · refine va_copyl (n0 := m0) (n1 := m1) hC.1 hC.2.1 (hC.2.2.2.1.trans hS.1.1.symm) hC.2.2.2.2.1 (hts _ hl) (hts _ hnat) (hts _ hst) (hts _ hin) hC.2.2.2.2.2.2.2.2.2.2.1.1 hS.2.2.2.1 (am_D base ca sh M) (va_S_here hS.2.2.2.2.1) s0 d 1 1 (f := fun j => Int64.ofInt (M s0 j)) (g := fun j => Int64.ofInt (M d j)) hg0 hg1 rfl rfl rfl (hpos hr.1) (hpos hr.2.1) (hpos hr.2.2.1) (by simp only [i_cl]; omega) (by simp only [i_cl]; omega) (fun i _ => rfl) (by omega) (by rw [hfw]; omega) hd ?_
    refine am_back (e2 := fun base ca => .inl (ca.2.1, m1, .inr (.inl (va_cpy (fun j => Int64.ofInt (M s0 j)) (fun j => Int64.ofInt (M d j)) (Int32.ofInt sp).toNatClampNeg (Int32.ofInt dp).toNatClampNeg (Int32.ofInt n).toNatClampNeg)))) h1 (fun base ca => ?_) (fun a' h' => am_row_ne h') h hC hS hQ
    simp only [am_cell]
    rw [if_neg (by omega), if_neg (by omega), if_pos trivial, i_cl, i_cl, i_cl]
    congr 5
    funext j
    simp only [va_cpy, am_cpy, am_row, if_true]
    split <;> rfl
theorem am_objI {ix a : Nat} (hd : decode (am_cc k) pc = .ok (.invokespecial ix, 3)) (hl : Cond.methodLink (am_y k).cls ix Lib.objectInit ∈ lw_g) (hin : Cond.instanceMethod Lib.objectInit ∈ lw_g) (hcd : Cond.code Lib.objectInit ⟨#[0xb1]⟩ 1 none ∈ lw_g) (hfr : 1 ≤ am_fr k) (hlc : 26 ≤ am_lc k) (hcat : am_cats st ≤ 8)
    (h : am_At sc k (pc + 3) lv st sh M v sh' M') : am_At sc k pc lv (.inr (.inr (some a)) :: st) sh M v sh' M' := by
  intro p l e R s m args below meth c D ca base b n0 sl0 H locs ls Q hC hS hQ
  have hts := hC.2.2.2.2.2.1
  have hfr2 := hC.2.2.2.2.2.2.2.2.1
  have hlc2 := hC.2.2.2.2.2.2.2.2.2.1
  have hsum : ((st.map (am_cv base b)).map fun v => v.category).sum ≤ 8 := by rw [am_cats_eq]; exact hcat
  have hroom := lv_room (m := m) (pc := pc) (ls := ls) (rest := .ref (base + a) :: st.map (am_cv base b)) hsum
  exact W.objInit hC.1 hC.2.1 hC.2.2.2.2.1 (hts _ hl) (hts _ hin) (hts _ hcd) (g := F0 m pc ls (.ref (base + a) :: st.map (am_cv base b))) rfl (hS.1.1.trans hC.2.2.2.1.symm) rfl hd (by omega) (by omega) (h hC hS hQ)
/-- behind a call -/
theorem am_behind {p : Program} {l : Launch} {e : Env} {R : Room} {s : State} {m : MethodId} {args : Array Value} {below : List Frame} {meth : Method} {c : Code} {H : Heap} {locs : List Loc} {cells slots mc ms : Nat} {Q : State → Prop} {ls : Array Slot} {st0 rest : List Value} {base : Nat} {w : Option Value} {B : State → Prop}
    (hr : va_Run p l e R s m args below meth c H locs cells slots mc ms (F0 m pc ls st0) rest (fun st o t => o = .returned w ∧ B t ∧ va_F (fun q => base ≤ q) st t) (fun q => base ≤ q)) (hS : ∀ l ∈ locs, base ≤ l.base)
    (kk : ∀ (H1 : Heap) (locs1 : List Loc) (t : State), t.heap = H1 → B t → va_S (fun q => base ≤ q) H H1 locs1 → W p l e R s m args below meth c H1 locs1 (cells + mc) (slots + ms) Q (F0 m (pc + 3) ls (w.toList ++ rest))) : W p l e R s m args below meth c H locs cells slots Q (F0 m pc ls st0) := by
  intro T hT X
  obtain ⟨v, st₀, t, T', L, h0, X', hL, e1, e2, ⟨hv, hb, hz, hk⟩, st⟩ := hr T hT X
  cases hv
  rw [h0] at hz hk
  obtain ⟨t2, a1, b1⟩ := kk T'.heap (locs ++ L) t e1.symm hb ⟨by rw [e1]; exact hz, fun q h1 h2 => by rw [e1]; exact hk q h1 h2, fun q hq => by
      rcases List.mem_append.mp hq with h | h
      · exact hS q h
      · exact hL q h⟩ T' rfl X'
  exact ⟨t2, st t2 a1, b1⟩
theorem am_goodg (k2 : Nat) (hk : am_kw k2 ∈ lw_tbl) : GoodIn lw_g (am_tb k2) := fun w hw => by
  rcases List.mem_cons.mp hw with h | h
  · subst h; exact ⟨List.mem_filter.mpr ⟨hk, rfl⟩, good_of_word rfl⟩
  · exact ⟨h, good_of_word (lw_g_good w h)⟩
/-- what every call of method k2 by method k needs -/
noncomputable def am_okc (k k2 n : Nat) : Prop := am_kw k2 ∈ lw_tbl ∧ (am_y k2).cls ≠ "java/lang/invoke/MethodHandle" ∧ (am_y k2).cls ≠ "java/lang/invoke/VarHandle" ∧ (parseMethodDescriptor (am_y k2).desc).map (fun d => d.parameters.length) = some n ∧ am_fr k2 + 1 ≤ am_fr k ∧ 8 + (am_ml k2 + 11) + am_lc k2 ≤ am_lc k
/-- the caller's part behind a call that ended with w, sh1, M1 -/
theorem am_go {w : Option am_V} {sh1 : am_Sh} {M1 : am_M} {p : Program} {l : Launch} {e : Env} {R : Room} {s : State} {m : MethodId} {args : Array Value} {below : List Frame} {meth : Method} {c : Code} {D : va_G} {ca : am_Ca} {base b n0 sl0 : Nat} {H : Heap} {locs : List Loc} {ls : Array Slot} {Q : State → Prop} {st0 : List Value} {r : List am_V}
    (hC : am_Cx sc k p R s m args meth c D ca base b n0 sl0 (sh'.length, am_sl sh')) (hS : am_St k s D ca base b n0 sl0 (sh'.length, am_sl sh') H locs ls lv sh M)
    (hQ : ∀ (pc : Nat) (H : Heap) (locs : List Loc) (ls : Array Slot) (lv : am_Lv), am_rets k pc v → am_St k s D ca base b n0 sl0 (sh'.length, am_sl sh') H locs ls lv sh' M' →
      W p l e R s m args below meth c H locs (sh'.length - n0) (am_sl sh' - sl0) Q (F0 m pc ls ((v.map (am_cv base b)).toList)))
    (hg : sh.length ≤ sh1.length ∧ sh1.length ≤ sh'.length ∧ am_sl sh ≤ am_sl sh1 ∧ am_sl sh1 ≤ am_sl sh')
    (hr : va_Run p l e R s m args below meth c H locs (sh.length - n0) (am_sl sh - sl0) (sh1.length - sh.length) (am_sl sh1 - am_sl sh) (F0 m pc ls st0) (r.map (am_cv base b)) (fun st o t => o = .returned (w.map (am_cv base b)) ∧ (t.heap.size = base + sh1.length ∧ va_P D vwCl (am_ws base ca sh1 M1) t.heap) ∧ va_F (fun q => base ≤ q) st t) (fun q => base ≤ q))
    (h : am_At sc k (pc + 3) lv (w.toList ++ r) sh1 M1 v sh' M') : W p l e R s m args below meth c H locs (sh.length - n0) (am_sl sh - sl0) Q (F0 m pc ls st0) := by
  refine am_behind hr (fun q hq => hS.2.2.2.2.1.2.2 q hq) fun H1 locs1 t ht hB hS1 => ?_
  have hn0 := hS.2.2.2.2.2.1
  have hs0 := hS.2.2.2.2.2.2.1
  rw [show sh.length - n0 + (sh1.length - sh.length) = sh1.length - n0 by omega, show am_sl sh - sl0 + (am_sl sh1 - am_sl sh) = am_sl sh1 - sl0 by omega]
  rw [ht] at hB
  have hst : ((w.map (am_cv base b)).toList ++ r.map (am_cv base b)) = (w.toList ++ r).map (am_cv base b) := by cases w <;> simp
  rw [hst]
  exact h hC ⟨hS.1, hS.2.1, hB.1, hB.2, va_S_trans hS.2.2.2.2.1 hS1, by omega, by omega, hg.2.1, hg.2.2.2⟩ hQ
theorem am_blind {D : va_G} {ca : am_Ca} {base b : Nat} {as : List am_V} {sh : am_Sh} {M : am_M} : FrameBlind (va_Pc (as.map (am_cv base b)) (fun U => U.heap.size = base + sh.length ∧ va_P D vwCl (am_ws base ca sh M) U.heap ∧ am_Kn D ca U)) := fun a U g mk q => ⟨q.1, q.2.1, q.2.2.1, am_Kn.same (s := U) rfl q.2.2.2⟩
theorem am_callV {ix k2 n a ci : Nat} {q : am_S} {as : List am_V} {w : Option am_V} {M1 : am_M} (hd : decode (am_cc k) pc = .ok (.invokevirtual ix, 3)) (hok : am_okc k k2 n) (hci : (am_y k2).cls = (vwCl.getD ci ("", TX0, 0)).1) (hc10 : ci < 10) (h1 : Cond.methodLink (am_y k).cls ix (am_y k2) ∈ lw_g) (h2 : Cond.instanceMethod (am_y k2) ∈ lw_g) (h3 : Cond.selects (am_y k2).cls (am_y k2) (am_y k2) ∈ lw_g) (h4 : Cond.initialized (am_y k2).cls ∈ lw_g)
    (hn : as.length = n) (ha : sh[a]? = some q) (hq : q.1 = ci) (hcat : am_cats st ≤ 8) (hM : am_Calls k2 (.inr (.inr (some a)) :: as) sh M w sh M1)
    (h : am_At sc k (pc + 3) lv (w.toList ++ st) sh M1 v sh' M') : am_At sc k pc lv (as.reverse ++ .inr (.inr (some a)) :: st) sh M v sh' M' := by
  intro p l e R s m args below meth c D ca base b n0 sl0 H locs ls Q hC hS hQ
  have hts := hC.2.2.2.2.2.1
  have hfr2 := hC.2.2.2.2.2.2.2.2.1
  have hlc2 := hC.2.2.2.2.2.2.2.2.2.1
  have hsum : ((st.map (am_cv base b)).map fun v => v.category).sum ≤ 8 := by rw [am_cats_eq]; exact hcat
  obtain ⟨hkw, hx1, hx2, hx3, hx4, hx5⟩ := hok
  have hg := am_ws_get (base := base) (ca := ca) (M := M) ha
  subst hq
  rw [am_obj hc10] at hg
  have hcl : vwCl[q.1]? = some (vwCl.getD q.1 ("", TX0, 0)) := by
    rw [List.getD_eq_getElem?_getD, List.getElem?_eq_getElem (show q.1 < vwCl.length from hc10)]; rfl
  have hcells := hC.2.2.2.2.2.2.2.2.2.2.2.2.1
  have hslots := hC.2.2.2.2.2.2.2.2.2.2.2.2.2.1
  have hl1 := hS.2.2.2.2.2.2.2.1
  have hl2 := hS.2.2.2.2.2.2.2.2
  dsimp only at hcells hslots hl1 hl2
  have hG : GoodIn lw_g (wsV (am_y k).cls ix (am_y k2).cls (am_y k2) (am_tb k2)) := fun w hw => by
    unfold wsV at hw
    rcases List.mem_append.mp hw with h | h
    · simp only [List.mem_cons, List.not_mem_nil, or_false] at h
      rcases h with rfl | rfl | rfl | rfl
      · exact ⟨h1, good_of_word (lw_g_good _ h1)⟩
      · exact ⟨h2, good_of_word (lw_g_good _ h2)⟩
      · exact ⟨h3, good_of_word (lw_g_good _ h3)⟩
      · exact ⟨h4, good_of_word (lw_g_good _ h4)⟩
    · exact am_goodg k2 hkw w h
  refine am_go hC hS hQ ⟨Nat.le_refl _, hl1, Nat.le_refl _, hl2⟩ (va_runV (nL := am_ml k) (Ts := lw_g) (own := (am_y k).cls) (C := (am_y k2).cls) (b := base + a) (As := as.map (am_cv base b)) (rest := st.map (am_cv base b)) ⟨hC.1, hC.2.1, hC.2.2.2.1, hC.2.2.2.2.1, hts⟩ (hM l D ca base b) (cwV n hts hG rfl rfl rfl ⟨rfl, hx1, hx2, hx3⟩ ⟨by show am_fr k2 + 1 ≤ R.frames; omega, by show 8 + (am_ml k2 + 11) + am_lc k2 ≤ R.locals; omega⟩) ⟨am_blind, ?_, fun U hU hW => ⟨by simp [am_cv], by rw [hU]; exact hS.2.2.1, by rw [hU]; exact hS.2.2.2.1, am_Kn.warm hW hC.2.2.2.2.2.2.2.2.2.2.1⟩⟩ rfl (by simpa using hn) hS.1.1 (by simp [am_cv]) (lv_room hsum) hd ⟨by omega, by omega⟩) h
  rw [hci]
  exact va_recv hC.2.2.2.2.2.2.2.2.2.2.1.1 hS.2.2.2.1 hcl hg
theorem am_callS {ix k2 n : Nat} {as : List am_V} {w : Option am_V} {M1 : am_M} (hd : decode (am_cc k) pc = .ok (.invokestatic ix, 3)) (hok : am_okc k k2 n) (h1 : Cond.methodLink (am_y k).cls ix (am_y k2) ∈ lw_g) (h2 : Cond.static (am_y k2) ∈ lw_g) (h4 : Cond.initialized (am_y k2).cls ∈ lw_g)
    (hn : as.length = n) (hcat : am_cats st ≤ 8) (hM : am_Calls k2 as sh M w sh M1)
    (h : am_At sc k (pc + 3) lv (w.toList ++ st) sh M1 v sh' M') : am_At sc k pc lv (as.reverse ++ st) sh M v sh' M' := by
  intro p l e R s m args below meth c D ca base b n0 sl0 H locs ls Q hC hS hQ
  have hts := hC.2.2.2.2.2.1
  have hfr2 := hC.2.2.2.2.2.2.2.2.1
  have hlc2 := hC.2.2.2.2.2.2.2.2.2.1
  have hsum : ((st.map (am_cv base b)).map fun v => v.category).sum ≤ 8 := by rw [am_cats_eq]; exact hcat
  obtain ⟨hkw, hx1, hx2, hx3, hx4, hx5⟩ := hok
  have hcells := hC.2.2.2.2.2.2.2.2.2.2.2.2.1
  have hslots := hC.2.2.2.2.2.2.2.2.2.2.2.2.2.1
  have hl1 := hS.2.2.2.2.2.2.2.1
  have hl2 := hS.2.2.2.2.2.2.2.2
  dsimp only at hcells hslots hl1 hl2
  exact am_go hC hS hQ ⟨Nat.le_refl _, hl1, Nat.le_refl _, hl2⟩ (va_runS (nL := am_ml k) (Ts := lw_g) (own := (am_y k).cls) (As := as.map (am_cv base b)) (rest := st.map (am_cv base b)) ⟨hC.1, hC.2.1, hC.2.2.2.1, hC.2.2.2.2.1, hts⟩ (hM l D ca base b) ⟨callB_of n hts (am_goodg k2 hkw) rfl rfl rfl (hts _ h4) (hts _ h1) ⟨hx1, hx2, hx3⟩ ⟨by show am_fr k2 + 1 ≤ R.frames; omega, by show 8 + (am_ml k2 + 11) + am_lc k2 ≤ R.locals; omega⟩, hts _ h2⟩ ⟨am_blind, fun U hU hW => ⟨rfl, by rw [hU]; exact hS.2.2.1, by rw [hU]; exact hS.2.2.2.1, am_Kn.warm hW hC.2.2.2.2.2.2.2.2.2.2.1⟩⟩ rfl (by simpa using hn) hS.1.1 (by simp) (lv_room hsum) hd ⟨by omega, by omega⟩) h
theorem am_callN {ix k2 n : Nat} {host : String} {as : List am_V} {w : Option am_V} {M1 : am_M} (hd : decode (am_cc k) pc = .ok (.invokestatic ix, 3)) (hok : am_okc k k2 n) (h1 : ((am_y k).cls, ix, am_y k2, host) ∈ am_nst) (h2 : Cond.static (am_y k2) ∈ lw_g) (h4 : Cond.initialized (am_y k2).cls ∈ lw_g)
    (hn : as.length = n) (hcat : am_cats st ≤ 8) (hM : am_Calls k2 as sh M w sh M1)
    (h : am_At sc k (pc + 3) lv (w.toList ++ st) sh M1 v sh' M') : am_At sc k pc lv (as.reverse ++ st) sh M v sh' M' := by
  intro p l e R s m args below meth c D ca base b n0 sl0 H locs ls Q hC hS hQ
  have hts := hC.2.2.2.2.2.1
  have hfr2 := hC.2.2.2.2.2.2.2.2.1
  have hlc2 := hC.2.2.2.2.2.2.2.2.2.1
  have hsum : ((st.map (am_cv base b)).map fun v => v.category).sum ≤ 8 := by rw [am_cats_eq]; exact hcat
  obtain ⟨hkw, hx1, hx2, hx3, hx4, hx5⟩ := hok
  have hcells := hC.2.2.2.2.2.2.2.2.2.2.2.2.1
  have hslots := hC.2.2.2.2.2.2.2.2.2.2.2.2.2.1
  have hl1 := hS.2.2.2.2.2.2.2.1
  have hl2 := hS.2.2.2.2.2.2.2.2
  dsimp only at hcells hslots hl1 hl2
  have hnw := hC.2.2.2.2.2.2.2.2.2.2.1.2.1 _ h1
  exact am_go hC hS hQ ⟨Nat.le_refl _, hl1, Nat.le_refl _, hl2⟩ (va_runSN (nL := am_ml k) (Ts := lw_g) (own := (am_y k).cls) (As := as.map (am_cv base b)) (rest := st.map (am_cv base b)) ⟨hC.1, hC.2.1, hC.2.2.2.1, hC.2.2.2.2.1, hts⟩ (hM l D ca base b) ⟨va_cnB n hts (am_goodg k2 hkw) rfl rfl rfl hnw (hts _ h4) ⟨hx1, hx2, hx3⟩ ⟨by show am_fr k2 + 1 ≤ R.frames; omega, by show 8 + (am_ml k2 + 11) + am_lc k2 ≤ R.locals; omega⟩, hts _ h2, trivial⟩ ⟨am_blind, fun U hU hW => ⟨rfl, by rw [hU]; exact hS.2.2.1, by rw [hU]; exact hS.2.2.2.1, am_Kn.warm hW hC.2.2.2.2.2.2.2.2.2.2.1⟩⟩ rfl (by simpa using hn) hS.1.1 (by simp) (lv_room hsum) hd ⟨by omega, by omega⟩) h
theorem am_callI {ix k2 n a : Nat} {as : List am_V} {sh1 : am_Sh} {M1 : am_M} (hd : decode (am_cc k) pc = .ok (.invokespecial ix, 3)) (hok : am_okc k k2 n) (hnm : (am_y k2).name = "<init>") (hrt : am_rt k2 = none) (h1 : Cond.methodLink (am_y k).cls ix (am_y k2) ∈ lw_g) (h2 : Cond.instanceMethod (am_y k2) ∈ lw_g) (h4 : Cond.initialized (am_y k2).cls ∈ lw_g)
    (hn : as.length = n) (hcat : am_cats st ≤ 8) (hM : am_Calls k2 (.inr (.inr (some a)) :: as) sh M none sh1 M1) (hg : sh.length ≤ sh1.length ∧ sh1.length ≤ sh'.length ∧ am_sl sh ≤ am_sl sh1 ∧ am_sl sh1 ≤ am_sl sh')
    (h : am_At sc k (pc + 3) lv st sh1 M1 v sh' M') : am_At sc k pc lv (as.reverse ++ .inr (.inr (some a)) :: st) sh M v sh' M' := by
  intro p l e R s m args below meth c D ca base b n0 sl0 H locs ls Q hC hS hQ
  have hts := hC.2.2.2.2.2.1
  have hfr2 := hC.2.2.2.2.2.2.2.2.1
  have hlc2 := hC.2.2.2.2.2.2.2.2.2.1
  have hsum : ((st.map (am_cv base b)).map fun v => v.category).sum ≤ 8 := by rw [am_cats_eq]; exact hcat
  obtain ⟨hkw, hx1, hx2, hx3, hx4, hx5⟩ := hok
  have hcells := hC.2.2.2.2.2.2.2.2.2.2.2.2.1
  have hslots := hC.2.2.2.2.2.2.2.2.2.2.2.2.2.1
  have hn0 := hS.2.2.2.2.2.1
  have hs0 := hS.2.2.2.2.2.2.1
  dsimp only at hcells hslots
  have hcode : am_tb k2 = Cond.code (am_y k2) (am_cc k2) (am_ml k2) none :: lw_g := by rw [← hrt]; rfl
  exact am_go hC hS hQ hg (va_runI (nL := am_ml k) (Ts := lw_g) (own := (am_y k).cls) (b := base + a) (As := as.map (am_cv base b)) (rest := st.map (am_cv base b)) ⟨hC.1, hC.2.1, hC.2.2.2.1, hC.2.2.2.2.1, hts⟩ (hM l D ca base b) (cwI n hts (am_goodg k2 hkw) hcode rfl rfl (hts _ h4) (hts _ h1) (hts _ h2) hnm ⟨hx1, hx2, hx3⟩ ⟨by show am_fr k2 + 1 ≤ R.frames; omega, by show 8 + (am_ml k2 + 11) + am_lc k2 ≤ R.locals; omega⟩) ⟨am_blind, fun U hU hW => ⟨by simp [am_cv], by rw [hU]; exact hS.2.2.1, by rw [hU]; exact hS.2.2.2.1, am_Kn.warm hW hC.2.2.2.2.2.2.2.2.2.2.1⟩⟩ rfl (by simpa using hn) hS.1.1 (by simp [am_cv]) (lv_room hsum) hd ⟨by omega, by omega⟩) (w := none) (r := st) h
theorem am_mmax {ix : Nat} {x y : Int} (hd : decode (am_cc k) pc = .ok (.invokestatic ix, 3)) (h1 : Cond.methodLink (am_y k).cls ix Lib.Math.max.name ∈ lw_g) (h2 : Cond.static Lib.Math.max.name ∈ lw_g) (h3 : Cond.initialized "java/lang/Math" ∈ lw_g) (h4 : Cond.code Lib.Math.max.name Lib.Math.max.code 2 (some .int) ∈ lw_g) (hfr : 1 ≤ am_fr k) (hlc : 26 ≤ am_lc k) (hcat : am_cats st ≤ 8)
    (h : am_At sc k (pc + 3) lv (.inl (if wI x < wI y then y else x) :: st) sh M v sh' M') : am_At sc k pc lv (.inl y :: .inl x :: st) sh M v sh' M' := by
  intro p l e R s m args below meth c D ca base b n0 sl0 H locs ls Q hC hS hQ
  have hts := hC.2.2.2.2.2.1
  have hfr2 := hC.2.2.2.2.2.2.2.2.1
  have hlc2 := hC.2.2.2.2.2.2.2.2.2.1
  have hsum : ((st.map (am_cv base b)).map fun v => v.category).sum ≤ 8 := by rw [am_cats_eq]; exact hcat
  have hcells := hC.2.2.2.2.2.2.2.2.2.2.2.2.1
  have hslots := hC.2.2.2.2.2.2.2.2.2.2.2.2.2.1
  have hl1 := hS.2.2.2.2.2.2.2.1
  have hl2 := hS.2.2.2.2.2.2.2.2
  dsimp only at hcells hslots hl1 hl2
  refine va_mmax hC.1 hC.2.1 (hC.2.2.2.1.trans hS.1.1.symm) hC.2.2.2.2.1 (hts _ h1) (hts _ h2) (hts _ h3) (hts _ h4) (by omega) (by omega) (by omega) (by omega) hd ?_
  have hh := h hC hS hQ
  have e1 : (if Int32.ofInt x < Int32.ofInt y then Int32.ofInt y else Int32.ofInt x) = Int32.ofInt (if wI x < wI y then y else x) := by
    by_cases hx : wI x < wI y
    · rw [if_pos hx, if_pos (i_lt.mpr hx)]
    · rw [if_neg hx, if_neg (fun q => hx (i_lt.mp q))]
  rw [e1]; exact hh
theorem am_mmin {ix : Nat} {x y : Int} (hd : decode (am_cc k) pc = .ok (.invokestatic ix, 3)) (h1 : Cond.methodLink (am_y k).cls ix Lib.Math.min.name ∈ lw_g) (h2 : Cond.static Lib.Math.min.name ∈ lw_g) (h3 : Cond.initialized "java/lang/Math" ∈ lw_g) (h4 : Cond.code Lib.Math.min.name Lib.Math.min.code 2 (some .int) ∈ lw_g) (hfr : 1 ≤ am_fr k) (hlc : 26 ≤ am_lc k) (hcat : am_cats st ≤ 8)
    (h : am_At sc k (pc + 3) lv (.inl (if wI y < wI x then y else x) :: st) sh M v sh' M') : am_At sc k pc lv (.inl y :: .inl x :: st) sh M v sh' M' := by
  intro p l e R s m args below meth c D ca base b n0 sl0 H locs ls Q hC hS hQ
  have hts := hC.2.2.2.2.2.1
  have hfr2 := hC.2.2.2.2.2.2.2.2.1
  have hlc2 := hC.2.2.2.2.2.2.2.2.2.1
  have hsum : ((st.map (am_cv base b)).map fun v => v.category).sum ≤ 8 := by rw [am_cats_eq]; exact hcat
  have hcells := hC.2.2.2.2.2.2.2.2.2.2.2.2.1
  have hslots := hC.2.2.2.2.2.2.2.2.2.2.2.2.2.1
  have hl1 := hS.2.2.2.2.2.2.2.1
  have hl2 := hS.2.2.2.2.2.2.2.2
  dsimp only at hcells hslots hl1 hl2
  refine va_mmin hC.1 hC.2.1 (hC.2.2.2.1.trans hS.1.1.symm) hC.2.2.2.2.1 (hts _ h1) (hts _ h2) (hts _ h3) (hts _ h4) (by omega) (by omega) (by omega) (by omega) hd ?_
  have hh := h hC hS hQ
  have e1 : (if Int32.ofInt y < Int32.ofInt x then Int32.ofInt y else Int32.ofInt x) = Int32.ofInt (if wI y < wI x then y else x) := by
    by_cases hx : wI y < wI x
    · rw [if_pos hx, if_pos (i_lt.mpr hx)]
    · rw [if_neg hx, if_neg (fun q => hx (i_lt.mp q))]
  rw [e1]; exact hh
theorem am_mabs {ix : Nat} {x : Int} (hd : decode (am_cc k) pc = .ok (.invokestatic ix, 3)) (h1 : Cond.methodLink (am_y k).cls ix Lib.Math.abs.name ∈ lw_g) (h2 : Cond.static Lib.Math.abs.name ∈ lw_g) (h3 : Cond.initialized "java/lang/Math" ∈ lw_g) (h4 : Cond.code Lib.Math.abs.name Lib.Math.abs.code 1 (some .int) ∈ lw_g) (hfr : 1 ≤ am_fr k) (hlc : 26 ≤ am_lc k) (hcat : am_cats st ≤ 8)
    (h : am_At sc k (pc + 3) lv (.inl (if 0 ≤ wI x then x else 0 - x) :: st) sh M v sh' M') : am_At sc k pc lv (.inl x :: st) sh M v sh' M' := by
  intro p l e R s m args below meth c D ca base b n0 sl0 H locs ls Q hC hS hQ
  have hts := hC.2.2.2.2.2.1
  have hfr2 := hC.2.2.2.2.2.2.2.2.1
  have hlc2 := hC.2.2.2.2.2.2.2.2.2.1
  have hsum : ((st.map (am_cv base b)).map fun v => v.category).sum ≤ 8 := by rw [am_cats_eq]; exact hcat
  have hcells := hC.2.2.2.2.2.2.2.2.2.2.2.2.1
  have hslots := hC.2.2.2.2.2.2.2.2.2.2.2.2.2.1
  have hl1 := hS.2.2.2.2.2.2.2.1
  have hl2 := hS.2.2.2.2.2.2.2.2
  dsimp only at hcells hslots hl1 hl2
  refine va_mabs hC.1 hC.2.1 (hC.2.2.2.1.trans hS.1.1.symm) hC.2.2.2.2.1 (hts _ h1) (hts _ h2) (hts _ h3) (hts _ h4) (by omega) (by omega) (by omega) (by omega) hd ?_
  have hh := h hC hS hQ
  have e1 : (if 0 ≤ Int32.ofInt x then Int32.ofInt x else 0 - Int32.ofInt x) = Int32.ofInt (if 0 ≤ wI x then x else 0 - x) := by
    have e0 : (0 ≤ Int32.ofInt x) ↔ 0 ≤ wI x := by rw [← i_0, i_le, wI_0]
    by_cases hx : 0 ≤ wI x
    · rw [if_pos hx, if_pos (e0.mpr hx)]
    · rw [if_neg hx, if_neg (fun q => hx (e0.mp q)), ← i_0, i_sub]
  rw [e1]; exact hh
end AMR
