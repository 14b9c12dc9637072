/-! That the small machine speaks of the machine itself. -/
section AM
noncomputable def am_Cx (sc : Option (Nat × (Nat → Int))) (k : Nat) (p : Program) (R : Room) (s : State) (m : MethodId) (args : Array Value) (meth : Method) (c : Code) (D : va_G) (ca : am_Ca) (base b n0 sl0 : Nat) (fin : Nat × Nat) : Prop :=
  p.tables.exec = Jvm.exec ∧ c.code = am_cc k ∧ meth.sig.returnType = am_rt k ∧ c.maxLocals = am_ml k ∧ s.vm.findClass (am_y k).cls = some m.cls ∧ (∀ w ∈ lw_g, w.before args s = true) ∧ meth.locks = false ∧ meth.name = (am_y k).name ∧ am_fr k ≤ R.frames ∧ am_lc k ≤ R.locals ∧ am_Kn D ca s ∧ s.heap.size = base + n0 ∧ fin.1 ≤ n0 + R.cells ∧ fin.2 ≤ sl0 + R.slots ∧ (∀ c, sc = some c → va_X b c.1 (fun j => Int32.ofInt (c.2 j)) s s.heap ∧ b < base ∧ c.1 < 2 ^ 31)
noncomputable def am_St (k : Nat) (s : State) (D : va_G) (ca : am_Ca) (base b n0 sl0 : Nat) (fin : Nat × Nat) (H : Heap) (locs : List Loc) (ls : Array Slot) (lv : am_Lv) (sh : am_Sh) (M : am_M) : Prop :=
  lv_has ls (am_ml k) (am_lvl base b lv) ∧ lv.length = am_ml k ∧ H.size = base + sh.length ∧ va_P D vwCl (am_ws base ca sh M) H ∧ va_S (fun q => base ≤ q) s.heap H locs ∧ n0 ≤ sh.length ∧ sl0 ≤ am_sl sh ∧ sh.length ≤ fin.1 ∧ am_sl sh ≤ fin.2
noncomputable def am_rets (k pc : Nat) (v : Option am_V) : Prop :=
  (∃ x, v = some (.inl x) ∧ decode (am_cc k) pc = .ok (.ireturn, 1) ∧ (am_rt k = some .int ∨ am_rt k = some .boolean ∧ (x = 0 ∨ x = 1))) ∨
  (∃ x, v = some (.inr (.inl x)) ∧ decode (am_cc k) pc = .ok (.lreturn, 1) ∧ am_rt k = some .long) ∨
  (v = none ∧ decode (am_cc k) pc = .ok (.return_, 1) ∧ am_rt k = none)
/-- from place pc, with these locals, this stack, this world, method k comes to its end with that answer and that world -/
noncomputable def am_At (sc : Option (Nat × (Nat → Int))) (k pc : Nat) (lv : am_Lv) (st : List am_V) (sh : am_Sh) (M : am_M) (v : Option am_V) (sh' : am_Sh) (M' : am_M) : Prop :=
  ∀ ⦃p : Program⦄ ⦃l : Launch⦄ ⦃e : Env⦄ ⦃R : Room⦄ ⦃s : State⦄ ⦃m : MethodId⦄ ⦃args : Array Value⦄ ⦃below : List Frame⦄ ⦃meth : Method⦄ ⦃c : Code⦄ ⦃D : va_G⦄ ⦃ca : am_Ca⦄ ⦃base b n0 sl0 : Nat⦄ ⦃H : Heap⦄ ⦃locs : List Loc⦄ ⦃ls : Array Slot⦄ ⦃Q : State → Prop⦄,
    am_Cx sc k p R s m args meth c D ca base b n0 sl0 (sh'.length, am_sl sh') →
    am_St k s D ca base b n0 sl0 (sh'.length, am_sl sh') H locs ls lv sh M →
    (∀ (pc : Nat) (H : Heap) (locs : List Loc) (ls : Array Slot) (lv : am_Lv), am_rets k pc v → am_St k s D ca base b n0 sl0 (sh'.length, am_sl sh') H locs ls lv sh' M' →
      W p l e R s m args below meth c H locs (sh'.length - n0) (am_sl sh' - sl0) Q (F0 m pc ls ((v.map (am_cv base b)).toList))) →
    W p l e R s m args below meth c H locs (sh.length - n0) (am_sl sh - sl0) Q (F0 m pc ls (st.map (am_cv base b)))
theorem am_St.lv {k : Nat} {s : State} {D : va_G} {ca : am_Ca} {base b n0 sl0 : Nat} {fin : Nat × Nat} {H : Heap} {locs : List Loc} {ls ls' : Array Slot} {lv lv' : am_Lv} {sh : am_Sh} {M : am_M} (h : am_St k s D ca base b n0 sl0 fin H locs ls lv sh M) (h1 : lv_has ls' (am_ml k) (am_lvl base b lv')) (h2 : lv'.length = lv.length) : am_St k s D ca base b n0 sl0 fin H locs ls' lv' sh M :=
  ⟨h1, h2.trans h.2.1, h.2.2⟩
theorem am_St.at {k : Nat} {s : State} {D : va_G} {ca : am_Ca} {base b n0 sl0 : Nat} {fin : Nat × Nat} {H : Heap} {locs : List Loc} {ls : Array Slot} {lv : am_Lv} {sh : am_Sh} {M : am_M} (h : am_St k s D ca base b n0 sl0 fin H locs ls lv sh M) {n : Nat} {v : am_V} (hv : lv[n]? = some (some v)) : ls[n]? = some (.val (am_cv base b v)) :=
  h.1.2.2 (n, am_cv base b v) (am_lvl_mem.mpr ⟨v, hv, rfl⟩)
theorem va_S_trans {A : Nat → Prop} {H0 H H1 : Heap} {l l1 : List Loc} (h : va_S A H0 H l) (h1 : va_S A H H1 l1) : va_S A H0 H1 l1 :=
  ⟨Nat.le_trans h.1 h1.1, fun q hq hA => (h1.2.1 q (Nat.lt_of_lt_of_le hq h.1) hA).trans (h.2.1 q hq hA), h1.2.2⟩
theorem va_S_here {A : Nat → Prop} {H0 H : Heap} {l : List Loc} (h : va_S A H0 H l) : va_S A H H l := ⟨Nat.le_refl _, fun _ _ _ => rfl, h.2.2⟩
/-- how large the heap is: between what lies there and what was made -/
theorem am_exact {p : Program} {l : Launch} {e : Env} {R : Room} {s : State} {m : MethodId} {args : Array Value} {below : List Frame} {meth : Method} {c : Code} {H : Heap} {locs : List Loc} {slots : Nat} {Q : State → Prop} {g : JFrame} {base n0 n : Nat} (h1 : s.heap.size = base + n0) (hn : n0 ≤ n) (hl : base + n ≤ H.size)
    (kk : H.size = base + n → W p l e R s m args below meth c H locs (n - n0) slots Q g) : W p l e R s m args below meth c H locs (n - n0) slots Q g := fun T hT X => by
  have h2 := X.heapSize
  rw [hT] at h2
  exact kk (by omega) T hT X
section Simple
variable {sc : Option (Nat × (Nat → Int))} {k pc : Nat} {lv : am_Lv} {st : List am_V} {sh : am_Sh} {M : am_M} {v : Option am_V} {sh' : am_Sh} {M' : am_M}
theorem am_iconst {n : Int} (hd : decode (am_cc k) pc = .ok (.iconst n, 1)) (h : am_At sc k (pc + 1) lv (.inl n :: st) sh M v sh' M') : am_At sc k pc lv st sh M v sh' M' := by
  intro p l e R s m args below meth c D ca base b n0 sl0 H locs ls Q hC hS hQ
  exact lv_iconst hC.1 hC.2.1 hd rfl (h hC hS hQ)
theorem am_bipush {n : Int} (hd : decode (am_cc k) pc = .ok (.bipush n, 2)) (h1 : -128 ≤ n) (h2 : n < 128) (h : am_At sc k (pc + 2) lv (.inl n :: st) sh M v sh' M') : am_At sc k pc lv st sh M v sh' M' := by
  intro p l e R s m args below meth c D ca base b n0 sl0 H locs ls Q hC hS hQ
  exact lv_bipush hC.1 hC.2.1 hd (i_b h1 h2) (h hC hS hQ)
theorem am_sipush {n : Int} (hd : decode (am_cc k) pc = .ok (.sipush n, 3)) (h1 : -32768 ≤ n) (h2 : n < 32768) (h : am_At sc k (pc + 3) lv (.inl n :: st) sh M v sh' M') : am_At sc k pc lv st sh M v sh' M' := by
  intro p l e R s m args below meth c D ca base b n0 sl0 H locs ls Q hC hS hQ
  exact lv_sipush hC.1 hC.2.1 hd (i_s h1 h2) (h hC hS hQ)
theorem am_lconst {n : Fin 2} (hd : decode (am_cc k) pc = .ok (.lconst n, 1)) (h : am_At sc k (pc + 1) lv (.inr (.inl ((n : Nat) : Int)) :: st) sh M v sh' M') : am_At sc k pc lv st sh M v sh' M' := by
  intro p l e R s m args below meth c D ca base b n0 sl0 H locs ls Q hC hS hQ
  refine lv_lconst hC.1 hC.2.1 hd (v := Int64.ofInt ((n : Nat) : Int)) ?_ (h hC hS hQ)
  rfl
theorem am_ldc {ix n : Nat} (hd : decode (am_cc k) pc = .ok (.ldc ix, 2)) (hw : Cond.constant (am_y k).cls ix (Int32.ofInt n) ∈ lw_g) (h : am_At sc k (pc + 2) lv (.inl (n : Int) :: st) sh M v sh' M') : am_At sc k pc lv st sh M v sh' M' := by
  intro p l e R s m args below meth c D ca base b n0 sl0 H locs ls Q hC hS hQ
  exact lv_ldc hC.1 hC.2.1 hC.2.2.2.2.1 (hC.2.2.2.2.2.1 _ hw) hd (h hC hS hQ)
theorem am_ldcw {ix n : Nat} (hd : decode (am_cc k) pc = .ok (.ldc_w ix, 3)) (hw : Cond.constant (am_y k).cls ix (Int32.ofInt n) ∈ lw_g) (h : am_At sc k (pc + 3) lv (.inl (n : Int) :: st) sh M v sh' M') : am_At sc k pc lv st sh M v sh' M' := by
  intro p l e R s m args below meth c D ca base b n0 sl0 H locs ls Q hC hS hQ
  exact lv_ldcw hC.1 hC.2.1 hC.2.2.2.2.1 (hC.2.2.2.2.2.1 _ hw) hd (h hC hS hQ)
theorem am_ldc2 {ix : Nat} {n : Int} (hd : decode (am_cc k) pc = .ok (.ldc2_w ix, 3)) (hw : Cond.constantLong (am_y k).cls ix (Int64.ofInt n) ∈ lw_g) (h : am_At sc k (pc + 3) lv (.inr (.inl n) :: st) sh M v sh' M') : am_At sc k pc lv st sh M v sh' M' := by
  intro p l e R s m args below meth c D ca base b n0 sl0 H locs ls Q hC hS hQ
  exact lv_ldc2 hC.1 hC.2.1 hC.2.2.2.2.1 (hC.2.2.2.2.2.1 _ hw) hd (h hC hS hQ)
theorem am_iload {n : Nat} {x : Int} (hd : decode (am_cc k) pc = .ok (.iload n, 2)) (hl : lv[n]? = some (some (.inl x))) (h : am_At sc k (pc + 2) lv (.inl x :: st) sh M v sh' M') : am_At sc k pc lv st sh M v sh' M' := by
  intro p l e R s m args below meth c D ca base b n0 sl0 H locs ls Q hC hS hQ
  exact lv_iload hC.1 hC.2.1 hd (hS.at hl) (h hC hS hQ)
theorem am_iload_n {n : Fin 4} {x : Int} (hd : decode (am_cc k) pc = .ok (.iload_n n, 1)) (hl : lv[(n : Nat)]? = some (some (.inl x))) (h : am_At sc k (pc + 1) lv (.inl x :: st) sh M v sh' M') : am_At sc k pc lv st sh M v sh' M' := by
  intro p l e R s m args below meth c D ca base b n0 sl0 H locs ls Q hC hS hQ
  exact lv_iload_n hC.1 hC.2.1 hd rfl (hS.at hl) (h hC hS hQ)
theorem am_lload {n : Nat} {x : Int} (hd : decode (am_cc k) pc = .ok (.lload n, 2)) (hl : lv[n]? = some (some (.inr (.inl x)))) (h : am_At sc k (pc + 2) lv (.inr (.inl x) :: st) sh M v sh' M') : am_At sc k pc lv st sh M v sh' M' := by
  intro p l e R s m args below meth c D ca base b n0 sl0 H locs ls Q hC hS hQ
  exact lv_lload hC.1 hC.2.1 hd (hS.at hl) (h hC hS hQ)
theorem am_lload_n {n : Fin 4} {x : Int} (hd : decode (am_cc k) pc = .ok (.lload_n n, 1)) (hl : lv[(n : Nat)]? = some (some (.inr (.inl x)))) (h : am_At sc k (pc + 1) lv (.inr (.inl x) :: st) sh M v sh' M') : am_At sc k pc lv st sh M v sh' M' := by
  intro p l e R s m args below meth c D ca base b n0 sl0 H locs ls Q hC hS hQ
  exact lv_lload_n hC.1 hC.2.1 hd rfl (hS.at hl) (h hC hS hQ)
theorem am_cvX (base b : Nat) (x : Option Nat) : ∃ a, am_cv base b (.inr (.inr x)) = .ref a := by cases x <;> exact ⟨_, rfl⟩
theorem am_aload {n : Nat} {x : Option Nat} (hd : decode (am_cc k) pc = .ok (.aload n, 2)) (hl : lv[n]? = some (some (.inr (.inr x)))) (h : am_At sc k (pc + 2) lv (.inr (.inr x) :: st) sh M v sh' M') : am_At sc k pc lv st sh M v sh' M' := by
  intro p l e R s m args below meth c D ca base b n0 sl0 H locs ls Q hC hS hQ
  have h1 := h hC hS hQ
  have h2 := hS.at hl
  obtain ⟨a, ha⟩ := am_cvX base b x
  simp only [List.map_cons, ha] at h1 h2
  exact lv_aload hC.1 hC.2.1 hd h2 h1
theorem am_aload_n {n : Fin 4} {x : Option Nat} (hd : decode (am_cc k) pc = .ok (.aload_n n, 1)) (hl : lv[(n : Nat)]? = some (some (.inr (.inr x)))) (h : am_At sc k (pc + 1) lv (.inr (.inr x) :: st) sh M v sh' M') : am_At sc k pc lv st sh M v sh' M' := by
  intro p l e R s m args below meth c D ca base b n0 sl0 H locs ls Q hC hS hQ
  have h1 := h hC hS hQ
  have h2 := hS.at hl
  obtain ⟨a, ha⟩ := am_cvX base b x
  simp only [List.map_cons, ha] at h1 h2
  exact lv_aload_n hC.1 hC.2.1 hd rfl h2 h1
theorem am_istore {n : Nat} {x : Int} (hd : decode (am_cc k) pc = .ok (.istore n, 2)) (hn : n < am_ml k) (h : am_At sc k (pc + 2) (am_set lv n (.inl x)) st sh M v sh' M') : am_At sc k pc lv (.inl x :: st) sh M v sh' M' := by
  intro p l e R s m args below meth c D ca base b n0 sl0 H locs ls Q hC hS hQ
  exact lv_istore hC.1 hC.2.1 hd hS.1 hn rfl fun ls' h' => h hC (hS.lv (lv_has_sub h' am_set_sub) (am_set_len _ _ _)) hQ
theorem am_istore_n {n : Fin 4} {x : Int} (hd : decode (am_cc k) pc = .ok (.istore_n n, 1)) (hn : (n : Nat) < am_ml k) (h : am_At sc k (pc + 1) (am_set lv n (.inl x)) st sh M v sh' M') : am_At sc k pc lv (.inl x :: st) sh M v sh' M' := by
  intro p l e R s m args below meth c D ca base b n0 sl0 H locs ls Q hC hS hQ
  exact lv_istore_n hC.1 hC.2.1 hd rfl hS.1 hn rfl fun ls' h' => h hC (hS.lv (lv_has_sub h' am_set_sub) (am_set_len _ _ _)) hQ
theorem am_lstore {n : Nat} {x : Int} (hd : decode (am_cc k) pc = .ok (.lstore n, 2)) (hn : n + 1 < am_ml k) (h : am_At sc k (pc + 2) (am_setL lv n (.inr (.inl x))) st sh M v sh' M') : am_At sc k pc lv (.inr (.inl x) :: st) sh M v sh' M' := by
  intro p l e R s m args below meth c D ca base b n0 sl0 H locs ls Q hC hS hQ
  exact lv_lstore hC.1 hC.2.1 hd hS.1 hn rfl fun ls' h' => h hC (hS.lv (lv_has_sub h' am_setL_sub) (am_setL_len _ _ _)) hQ
theorem am_lstore_n {n : Fin 4} {x : Int} (hd : decode (am_cc k) pc = .ok (.lstore_n n, 1)) (hn : (n : Nat) + 1 < am_ml k) (h : am_At sc k (pc + 1) (am_setL lv n (.inr (.inl x))) st sh M v sh' M') : am_At sc k pc lv (.inr (.inl x) :: st) sh M v sh' M' := by
  intro p l e R s m args below meth c D ca base b n0 sl0 H locs ls Q hC hS hQ
  exact lv_lstore_n hC.1 hC.2.1 hd rfl hS.1 hn rfl fun ls' h' => h hC (hS.lv (lv_has_sub h' am_setL_sub) (am_setL_len _ _ _)) hQ
theorem am_astore_n {n : Fin 4} {x : Option Nat} (hd : decode (am_cc k) pc = .ok (.astore_n n, 1)) (hn : (n : Nat) < am_ml k) (h : am_At sc k (pc + 1) (am_set lv n (.inr (.inr x))) st sh M v sh' M') : am_At sc k pc lv (.inr (.inr x) :: st) sh M v sh' M' := by
  intro p l e R s m args below meth c D ca base b n0 sl0 H locs ls Q hC hS hQ
  obtain ⟨a, ha⟩ := am_cvX base b x
  simp only [List.map_cons, ha]
  exact lv_astore_n hC.1 hC.2.1 hd rfl hS.1 hn rfl fun ls' h' => h hC (hS.lv (lv_has_sub h' (by rw [← ha]; exact am_set_sub)) (am_set_len _ _ _)) hQ
theorem am_astore {n : Nat} {x : Option Nat} (hd : decode (am_cc k) pc = .ok (.astore n, 2)) (hn : (n : Nat) < am_ml k) (h : am_At sc k (pc + 2) (am_set lv n (.inr (.inr x))) st sh M v sh' M') : am_At sc k pc lv (.inr (.inr x) :: st) sh M v sh' M' := by
  intro p l e R s m args below meth c D ca base b n0 sl0 H locs ls Q hC hS hQ
  obtain ⟨a, ha⟩ := am_cvX base b x
  simp only [List.map_cons, ha]
  exact lv_astore hC.1 hC.2.1 hd hS.1 hn rfl fun ls' h' => h hC (hS.lv (lv_has_sub h' (by rw [← ha]; exact am_set_sub)) (am_set_len _ _ _)) hQ
theorem am_iinc {n : Nat} {x z : Int} (hd : decode (am_cc k) pc = .ok (.iinc n z, 3)) (hn : n < am_ml k) (hl : lv[n]? = some (some (.inl x))) (h : am_At sc k (pc + 3) (am_set lv n (.inl (x + z))) st sh M v sh' M') : am_At sc k pc lv st sh M v sh' M' := by
  intro p l e R s m args below meth c D ca base b n0 sl0 H locs ls Q hC hS hQ
  obtain ⟨j, hj⟩ := List.getElem?_of_mem (am_lvl_mem (base := base) (b := b) (q := (n, am_cv base b (.inl x))) |>.mpr ⟨_, hl, rfl⟩)
  exact lv_iinc (v := Int32.ofInt (x + z)) hC.1 hC.2.1 hd hS.1 hj (i_add x z) hn rfl fun ls' h' => h hC (hS.lv (lv_has_sub h' am_set_sub) (am_set_len _ _ _)) hQ
theorem am_iadd {x y : Int} (hd : decode (am_cc k) pc = .ok (.iadd, 1)) (h : am_At sc k (pc + 1) lv (.inl (x + y) :: st) sh M v sh' M') : am_At sc k pc lv (.inl y :: .inl x :: st) sh M v sh' M' := by
  intro p l e R s m args below meth c D ca base b n0 sl0 H locs ls Q hC hS hQ
  refine lv_iadd hC.1 hC.2.1 hd ?_
  rw [i_add]; exact h hC hS hQ
theorem am_isub {x y : Int} (hd : decode (am_cc k) pc = .ok (.isub, 1)) (h : am_At sc k (pc + 1) lv (.inl (x - y) :: st) sh M v sh' M') : am_At sc k pc lv (.inl y :: .inl x :: st) sh M v sh' M' := by
  intro p l e R s m args below meth c D ca base b n0 sl0 H locs ls Q hC hS hQ
  refine lv_isub hC.1 hC.2.1 hd ?_
  rw [i_sub]; exact h hC hS hQ
theorem am_imul {x y : Int} (hd : decode (am_cc k) pc = .ok (.imul, 1)) (h : am_At sc k (pc + 1) lv (.inl (x * y) :: st) sh M v sh' M') : am_At sc k pc lv (.inl y :: .inl x :: st) sh M v sh' M' := by
  intro p l e R s m args below meth c D ca base b n0 sl0 H locs ls Q hC hS hQ
  refine lv_imul hC.1 hC.2.1 hd ?_
  rw [i_mul]; exact h hC hS hQ
theorem am_idiv {x y : Int} (hd : decode (am_cc k) pc = .ok (.idiv, 1)) (hy : wI y ≠ 0) (h : am_At sc k (pc + 1) lv (.inl ((wI x).tdiv (wI y)) :: st) sh M v sh' M') : am_At sc k pc lv (.inl y :: .inl x :: st) sh M v sh' M' := by
  intro p l e R s m args below meth c D ca base b n0 sl0 H locs ls Q hC hS hQ
  refine lv_idiv hC.1 hC.2.1 hd (fun e => hy (by rw [← i_0, i_eq] at e; exact e)) ?_
  rw [i_div]; exact h hC hS hQ
theorem am_irem {x y : Int} (hd : decode (am_cc k) pc = .ok (.irem, 1)) (hy : wI y ≠ 0) (h : am_At sc k (pc + 1) lv (.inl ((wI x).tmod (wI y)) :: st) sh M v sh' M') : am_At sc k pc lv (.inl y :: .inl x :: st) sh M v sh' M' := by
  intro p l e R s m args below meth c D ca base b n0 sl0 H locs ls Q hC hS hQ
  refine lv_irem hC.1 hC.2.1 hd (fun e => hy (by rw [← i_0, i_eq] at e; exact e)) ?_
  rw [i_rem]; exact h hC hS hQ
theorem am_ineg {x : Int} (hd : decode (am_cc k) pc = .ok (.ineg, 1)) (h : am_At sc k (pc + 1) lv (.inl (-x) :: st) sh M v sh' M') : am_At sc k pc lv (.inl x :: st) sh M v sh' M' := by
  intro p l e R s m args below meth c D ca base b n0 sl0 H locs ls Q hC hS hQ
  refine lv_ineg hC.1 hC.2.1 hd ?_
  rw [i_neg]; exact h hC hS hQ
theorem am_iand {x y : Int} (hd : decode (am_cc k) pc = .ok (.iand, 1)) (h : am_At sc k (pc + 1) lv (.inl (b_and_ x y) :: st) sh M v sh' M') : am_At sc k pc lv (.inl y :: .inl x :: st) sh M v sh' M' := by
  intro p l e R s m args below meth c D ca base b n0 sl0 H locs ls Q hC hS hQ
  refine lv_iand hC.1 hC.2.1 hd ?_
  rw [← i_of (_ &&& _)]; exact h hC hS hQ
theorem am_ior {x y : Int} (hd : decode (am_cc k) pc = .ok (.ior, 1)) (h : am_At sc k (pc + 1) lv (.inl (b_or_ x y) :: st) sh M v sh' M') : am_At sc k pc lv (.inl y :: .inl x :: st) sh M v sh' M' := by
  intro p l e R s m args below meth c D ca base b n0 sl0 H locs ls Q hC hS hQ
  refine lv_ior hC.1 hC.2.1 hd ?_
  rw [← i_of (_ ||| _)]; exact h hC hS hQ
theorem am_ishl {x y : Int} (hd : decode (am_cc k) pc = .ok (.ishl, 1)) (h : am_At sc k (pc + 1) lv (.inl (b_shl_ x y) :: st) sh M v sh' M') : am_At sc k pc lv (.inl y :: .inl x :: st) sh M v sh' M' := by
  intro p l e R s m args below meth c D ca base b n0 sl0 H locs ls Q hC hS hQ
  refine lv_ishl hC.1 hC.2.1 hd ?_
  rw [← i_of (_ <<< _)]; exact h hC hS hQ
theorem am_ishr {x y : Int} (hd : decode (am_cc k) pc = .ok (.ishr, 1)) (h : am_At sc k (pc + 1) lv (.inl (b_shr_ x y) :: st) sh M v sh' M') : am_At sc k pc lv (.inl y :: .inl x :: st) sh M v sh' M' := by
  intro p l e R s m args below meth c D ca base b n0 sl0 H locs ls Q hC hS hQ
  refine lv_ishr hC.1 hC.2.1 hd ?_
  rw [← i_of (_ >>> _)]; exact h hC hS hQ
theorem am_ladd {x y : Int} (hd : decode (am_cc k) pc = .ok (.ladd, 1)) (h : am_At sc k (pc + 1) lv (.inr (.inl (x + y)) :: st) sh M v sh' M') : am_At sc k pc lv (.inr (.inl y) :: .inr (.inl x) :: st) sh M v sh' M' := by
  intro p l e R s m args below meth c D ca base b n0 sl0 H locs ls Q hC hS hQ
  refine lv_ladd hC.1 hC.2.1 hd ?_
  rw [l_add]; exact h hC hS hQ
theorem am_lmul {x y : Int} (hd : decode (am_cc k) pc = .ok (.lmul, 1)) (h : am_At sc k (pc + 1) lv (.inr (.inl (x * y)) :: st) sh M v sh' M') : am_At sc k pc lv (.inr (.inl y) :: .inr (.inl x) :: st) sh M v sh' M' := by
  intro p l e R s m args below meth c D ca base b n0 sl0 H locs ls Q hC hS hQ
  refine lv_lmul hC.1 hC.2.1 hd ?_
  rw [l_mul]; exact h hC hS hQ
theorem am_ldiv {x y : Int} (hd : decode (am_cc k) pc = .ok (.ldiv, 1)) (hy : wL y ≠ 0) (h : am_At sc k (pc + 1) lv (.inr (.inl ((wL x).tdiv (wL y))) :: st) sh M v sh' M') : am_At sc k pc lv (.inr (.inl y) :: .inr (.inl x) :: st) sh M v sh' M' := by
  intro p l e R s m args below meth c D ca base b n0 sl0 H locs ls Q hC hS hQ
  refine lv_ldiv hC.1 hC.2.1 hd (fun e => hy (by rw [show (0 : Int64) = Int64.ofInt 0 from rfl, l_eq] at e; exact e)) ?_
  rw [l_div]; exact h hC hS hQ
theorem am_lrem {x y : Int} (hd : decode (am_cc k) pc = .ok (.lrem, 1)) (hy : wL y ≠ 0) (h : am_At sc k (pc + 1) lv (.inr (.inl ((wL x).tmod (wL y))) :: st) sh M v sh' M') : am_At sc k pc lv (.inr (.inl y) :: .inr (.inl x) :: st) sh M v sh' M' := by
  intro p l e R s m args below meth c D ca base b n0 sl0 H locs ls Q hC hS hQ
  refine lv_lrem hC.1 hC.2.1 hd (fun e => hy (by rw [show (0 : Int64) = Int64.ofInt 0 from rfl, l_eq] at e; exact e)) ?_
  rw [l_rem]; exact h hC hS hQ
theorem am_lshl {x y : Int} (hd : decode (am_cc k) pc = .ok (.lshl, 1)) (h : am_At sc k (pc + 1) lv (.inr (.inl (b_lshl_ x y)) :: st) sh M v sh' M') : am_At sc k pc lv (.inl y :: .inr (.inl x) :: st) sh M v sh' M' := by
  intro p l e R s m args below meth c D ca base b n0 sl0 H locs ls Q hC hS hQ
  refine lv_lshl hC.1 hC.2.1 hd rfl ?_
  rw [← l_of (_ <<< _)]; exact h hC hS hQ
theorem am_lcmp {x y : Int} (hd : decode (am_cc k) pc = .ok (.lcmp, 1)) (h : am_At sc k (pc + 1) lv (.inl (c_lcmp x y) :: st) sh M v sh' M') : am_At sc k pc lv (.inr (.inl y) :: .inr (.inl x) :: st) sh M v sh' M' := by
  intro p l e R s m args below meth c D ca base b n0 sl0 H locs ls Q hC hS hQ
  refine W.lcmp hC.1 hC.2.1 hd ?_
  rw [l_cmp]; exact h hC hS hQ
theorem am_i2l {x : Int} (hd : decode (am_cc k) pc = .ok (.i2l, 1)) (h : am_At sc k (pc + 1) lv (.inr (.inl (wI x)) :: st) sh M v sh' M') : am_At sc k pc lv (.inl x :: st) sh M v sh' M' := by
  intro p l e R s m args below meth c D ca base b n0 sl0 H locs ls Q hC hS hQ
  exact lv_i2l hC.1 hC.2.1 hd (i_2l x) (h hC hS hQ)
theorem am_l2i {x : Int} (hd : decode (am_cc k) pc = .ok (.l2i, 1)) (h : am_At sc k (pc + 1) lv (.inl x :: st) sh M v sh' M') : am_At sc k pc lv (.inr (.inl x) :: st) sh M v sh' M' := by
  intro p l e R s m args below meth c D ca base b n0 sl0 H locs ls Q hC hS hQ
  exact lv_l2i hC.1 hC.2.1 hd (l_2i x) (h hC hS hQ)
theorem am_i2b {x : Int} (hd : decode (am_cc k) pc = .ok (.i2b, 1)) (h : am_At sc k (pc + 1) lv (.inl (wB x) :: st) sh M v sh' M') : am_At sc k pc lv (.inl x :: st) sh M v sh' M' := by
  intro p l e R s m args below meth c D ca base b n0 sl0 H locs ls Q hC hS hQ
  exact lv_i2b hC.1 hC.2.1 hd (i_2b x) (h hC hS hQ)
theorem am_cat1 {base b : Nat} {x : am_V} (h : am_cat x = 1) : (am_cv base b x).category = 1 := by
  rcases x with x | x | (_ | k)
  · rfl
  · cases h
  · rfl
  · rfl
theorem am_dup {x : am_V} (hd : decode (am_cc k) pc = .ok (.dup, 1)) (hx : am_cat x = 1) (h : am_At sc k (pc + 1) lv (x :: x :: st) sh M v sh' M') : am_At sc k pc lv (x :: st) sh M v sh' M' := by
  intro p l e R s m args below meth c D ca base b n0 sl0 H locs ls Q hC hS hQ
  exact lv_dup hC.1 hC.2.1 hd (am_cat1 hx) (h hC hS hQ)
theorem am_pop1 {x : am_V} (hd : decode (am_cc k) pc = .ok (.pop, 1)) (hx : am_cat x = 1) (h : am_At sc k (pc + 1) lv st sh M v sh' M') : am_At sc k pc lv (x :: st) sh M v sh' M' := by
  intro p l e R s m args below meth c D ca base b n0 sl0 H locs ls Q hC hS hQ
  exact lv_pop hC.1 hC.2.1 hd (am_cat1 hx) (h hC hS hQ)
theorem am_catL {base b : Nat} {x : am_V} (h : am_cat x = 2) : (am_cv base b x).category = 2 := by
  rcases x with x | x | (_ | k)
  · cases h
  · rfl
  · cases h
  · cases h
theorem am_popL {x : am_V} (hd : decode (am_cc k) pc = .ok (.pop2, 1)) (hx : am_cat x = 2) (h : am_At sc k (pc + 1) lv st sh M v sh' M') : am_At sc k pc lv (x :: st) sh M v sh' M' := by
  intro p l e R s m args below meth c D ca base b n0 sl0 H locs ls Q hC hS hQ
  exact lv_pop2_2 hC.1 hC.2.1 hd (am_catL hx) (h hC hS hQ)
theorem am_dup2 {x y : am_V} (hd : decode (am_cc k) pc = .ok (.dup2, 1)) (hy : am_cat y = 1) (hx : am_cat x = 1) (h : am_At sc k (pc + 1) lv (y :: x :: y :: x :: st) sh M v sh' M') : am_At sc k pc lv (y :: x :: st) sh M v sh' M' := by
  intro p l e R s m args below meth c D ca base b n0 sl0 H locs ls Q hC hS hQ
  exact lv_dup2_11 hC.1 hC.2.1 hd (am_cat1 hy) (am_cat1 hx) (h hC hS hQ)
theorem am_goto {off : Int} {t : Nat} (hd : decode (am_cc k) pc = .ok (.goto off, 3)) (ht : (pc : Int) + off = t) (h : am_At sc k t lv st sh M v sh' M') : am_At sc k pc lv st sh M v sh' M' := by
  intro p l e R s m args below meth c D ca base b n0 sl0 H locs ls Q hC hS hQ
  exact lv_goto hC.1 hC.2.1 hd ht (h hC hS hQ)
theorem am_ifnull {off : Int} {x : Nat} (hd : decode (am_cc k) pc = .ok (.ifnull off, 3)) (h : am_At sc k (pc + 3) lv st sh M v sh' M') : am_At sc k pc lv (.inr (.inr (some x)) :: st) sh M v sh' M' := by
  intro p l e R s m args below meth c D ca base b n0 sl0 H locs ls Q hC hS hQ
  exact lv_ifnull hC.1 hC.2.1 hd (h hC hS hQ)
theorem am_ifnonnull {off : Int} {t x : Nat} (hd : decode (am_cc k) pc = .ok (.ifnonnull off, 3)) (ht : (pc : Int) + off = t) (h : am_At sc k t lv st sh M v sh' M') : am_At sc k pc lv (.inr (.inr (some x)) :: st) sh M v sh' M' := by
  intro p l e R s m args below meth c D ca base b n0 sl0 H locs ls Q hC hS hQ
  exact lv_ifnonnull hC.1 hC.2.1 hd ht (h hC hS hQ)
theorem am_if {cd : Jvm.ClassFile.Cond} {off : Int} {t : Nat} {x : Int} (hd : decode (am_cc k) pc = .ok (.ifCond cd off, 3)) (ht : (pc : Int) + off = t) (h1 : am_cnd cd (wI x) 0 → am_At sc k t lv st sh M v sh' M') (h2 : ¬ am_cnd cd (wI x) 0 → am_At sc k (pc + 3) lv st sh M v sh' M') : am_At sc k pc lv (.inl x :: st) sh M v sh' M' := by
  intro p l e R s m args below meth c D ca base b n0 sl0 H locs ls Q hC hS hQ
  have e1 : ∀ {x y : Int}, Int32.ofInt x = Int32.ofInt y ↔ wI x = wI y := i_eq
  cases cd with
  | eq => exact lv_if_eq hC.1 hC.2.1 hd ht (fun q => h1 (by rw [← i_0, i_eq] at q; exact q) hC hS hQ) (fun q => h2 (by rw [← i_0, i_eq] at q; exact q) hC hS hQ)
  | ne => exact lv_if_ne hC.1 hC.2.1 hd ht (fun q => h1 (by rw [← i_0] at q; simp only [ne_eq, i_eq] at q; exact q) hC hS hQ) (fun q => h2 (by rw [← i_0, i_eq] at q; exact fun z => z q) hC hS hQ)
  | lt => exact lv_if_lt hC.1 hC.2.1 hd ht (fun q => h1 (by rw [← i_0, i_lt] at q; exact q) hC hS hQ) (fun q => h2 (by rw [← i_0, i_lt] at q; exact q) hC hS hQ)
  | ge => exact lv_if_ge hC.1 hC.2.1 hd ht (fun q => h1 (by rw [← i_0, i_le] at q; exact q) hC hS hQ) (fun q => h2 (by rw [← i_0, i_le] at q; exact q) hC hS hQ)
  | gt => exact lv_if_gt hC.1 hC.2.1 hd ht (fun q => h1 (by rw [← i_0, i_lt] at q; exact q) hC hS hQ) (fun q => h2 (by rw [← i_0, i_lt] at q; exact q) hC hS hQ)
  | le => exact lv_if_le hC.1 hC.2.1 hd ht (fun q => h1 (by rw [← i_0, i_le] at q; exact q) hC hS hQ) (fun q => h2 (by rw [← i_0, i_le] at q; exact q) hC hS hQ)
theorem am_icmp {cd : Jvm.ClassFile.Cond} {off : Int} {t : Nat} {x y : Int} (hd : decode (am_cc k) pc = .ok (.if_icmp cd off, 3)) (ht : (pc : Int) + off = t) (h1 : am_cnd cd (wI x) (wI y) → am_At sc k t lv st sh M v sh' M') (h2 : ¬ am_cnd cd (wI x) (wI y) → am_At sc k (pc + 3) lv st sh M v sh' M') : am_At sc k pc lv (.inl y :: .inl x :: st) sh M v sh' M' := by
  intro p l e R s m args below meth c D ca base b n0 sl0 H locs ls Q hC hS hQ
  cases cd with
  | eq => exact lv_icmp_eq hC.1 hC.2.1 hd ht (fun q => h1 (by rw [i_eq] at q; exact q) hC hS hQ) (fun q => h2 (by rw [i_eq] at q; exact q) hC hS hQ)
  | ne => exact lv_icmp_ne hC.1 hC.2.1 hd ht (fun q => h1 (by simp only [ne_eq, i_eq] at q; exact q) hC hS hQ) (fun q => h2 (by rw [i_eq] at q; exact fun z => z q) hC hS hQ)
  | lt => exact lv_icmp_lt hC.1 hC.2.1 hd ht (fun q => h1 (by rw [i_lt] at q; exact q) hC hS hQ) (fun q => h2 (by rw [i_lt] at q; exact q) hC hS hQ)
  | ge => exact lv_icmp_ge hC.1 hC.2.1 hd ht (fun q => h1 (by rw [i_le] at q; exact q) hC hS hQ) (fun q => h2 (by rw [i_le] at q; exact q) hC hS hQ)
  | gt => exact lv_icmp_gt hC.1 hC.2.1 hd ht (fun q => h1 (by rw [i_lt] at q; exact q) hC hS hQ) (fun q => h2 (by rw [i_lt] at q; exact q) hC hS hQ)
  | le => exact lv_icmp_le hC.1 hC.2.1 hd ht (fun q => h1 (by rw [i_le] at q; exact q) hC hS hQ) (fun q => h2 (by rw [i_le] at q; exact q) hC hS hQ)
end Simple
end AM
