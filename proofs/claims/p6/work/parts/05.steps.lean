/-! A small machine over worlds by number: what an instruction asks, as a proposition that the rest of the run must meet. -/
noncomputable abbrev am_N : Type := am_Lv → List am_V → am_Sh → am_M → Prop
noncomputable def pI (st : List am_V) (K : Int → List am_V → Prop) : Prop := match st with
  | .inl x :: s => K x s
  | _ => False
noncomputable def pL (st : List am_V) (K : Int → List am_V → Prop) : Prop := match st with
  | .inr (.inl x) :: s => K x s
  | _ => False
noncomputable def pR (st : List am_V) (K : Nat → List am_V → Prop) : Prop := match st with
  | .inr (.inr (some a)) :: s => K a s
  | _ => False
noncomputable def pX (st : List am_V) (K : Option Nat → List am_V → Prop) : Prop := match st with
  | .inr (.inr a) :: s => K a s
  | _ => False
noncomputable def pV (st : List am_V) (K : am_V → List am_V → Prop) : Prop := match st with
  | v :: s => K v s
  | _ => False
noncomputable def pC (sh : am_Sh) (a : Nat) (K : am_S → Prop) : Prop := match sh[a]? with
  | some q => K q
  | none => False
noncomputable def pF (r : Option Nat) (K : Nat → Prop) : Prop := match r with
  | some a => K a
  | none => False
noncomputable def gI (lv : am_Lv) (n : Nat) (K : Int → Prop) : Prop := match lv[n]? with
  | some (some (.inl x)) => K x
  | _ => False
noncomputable def gL (lv : am_Lv) (n : Nat) (K : Int → Prop) : Prop := match lv[n]? with
  | some (some (.inr (.inl x))) => K x
  | _ => False
noncomputable def gX (lv : am_Lv) (n : Nat) (K : Option Nat → Prop) : Prop := match lv[n]? with
  | some (some (.inr (.inr x))) => K x
  | _ => False
theorem pI_e {st : List am_V} {K : Int → List am_V → Prop} (h : pI st K) : ∃ x s, st = .inl x :: s ∧ K x s := by
  unfold pI at h; split at h
  · exact ⟨_, _, rfl, h⟩
  · exact h.elim
theorem pL_e {st : List am_V} {K : Int → List am_V → Prop} (h : pL st K) : ∃ x s, st = .inr (.inl x) :: s ∧ K x s := by
  unfold pL at h; split at h
  · exact ⟨_, _, rfl, h⟩
  · exact h.elim
theorem pR_e {st : List am_V} {K : Nat → List am_V → Prop} (h : pR st K) : ∃ x s, st = .inr (.inr (some x)) :: s ∧ K x s := by
  unfold pR at h; split at h
  · exact ⟨_, _, rfl, h⟩
  · exact h.elim
theorem pX_e {st : List am_V} {K : Option Nat → List am_V → Prop} (h : pX st K) : ∃ x s, st = .inr (.inr x) :: s ∧ K x s := by
  unfold pX at h; split at h
  · exact ⟨_, _, rfl, h⟩
  · exact h.elim
theorem pV_e {st : List am_V} {K : am_V → List am_V → Prop} (h : pV st K) : ∃ x s, st = x :: s ∧ K x s := by
  unfold pV at h; split at h
  · exact ⟨_, _, rfl, h⟩
  · exact h.elim
theorem pC_e {sh : am_Sh} {a : Nat} {K : am_S → Prop} (h : pC sh a K) : ∃ q, sh[a]? = some q ∧ K q := by
  unfold pC at h; split at h
  · exact ⟨_, by assumption, h⟩
  · exact h.elim
theorem pF_e {r : Option Nat} {K : Nat → Prop} (h : pF r K) : ∃ q, r = some q ∧ K q := by
  unfold pF at h; split at h
  · exact ⟨_, rfl, h⟩
  · exact h.elim
theorem gI_e {lv : am_Lv} {n : Nat} {K : Int → Prop} (h : gI lv n K) : ∃ x, lv[n]? = some (some (.inl x)) ∧ K x := by
  unfold gI at h; split at h
  · exact ⟨_, by assumption, h⟩
  · exact h.elim
theorem gL_e {lv : am_Lv} {n : Nat} {K : Int → Prop} (h : gL lv n K) : ∃ x, lv[n]? = some (some (.inr (.inl x))) ∧ K x := by
  unfold gL at h; split at h
  · exact ⟨_, by assumption, h⟩
  · exact h.elim
theorem gX_e {lv : am_Lv} {n : Nat} {K : Option Nat → Prop} (h : gX lv n K) : ∃ x, lv[n]? = some (some (.inr (.inr x))) ∧ K x := by
  unfold gX at h; split at h
  · exact ⟨_, by assumption, h⟩
  · exact h.elim
noncomputable def am_cat : am_V → Nat
  | .inr (.inl _) => 2
  | _ => 1
noncomputable def am_cats : List am_V → Nat
  | [] => 0
  | v :: s => am_cat v + am_cats s
theorem am_cats_eq (base b : Nat) (s : List am_V) : ((s.map (am_cv base b)).map fun v => v.category).sum = am_cats s := by
  induction s with
  | nil => rfl
  | cons v s ih =>
    simp only [List.map_cons, List.sum_cons, ih, am_cats]
    congr 1
    rcases v with x | x | (_ | k) <;> rfl
noncomputable def am_pop : Nat → List am_V → List am_V → Option (List am_V × List am_V)
  | 0, st, acc => some (acc, st)
  | n + 1, v :: st, acc => am_pop n st (v :: acc)
  | _ + 1, [], _ => none
theorem am_pop_e : ∀ (n : Nat) (st acc : List am_V) (as r : List am_V), am_pop n st acc = some (as, r) → ∃ bs, as = bs ++ acc ∧ bs.length = n ∧ st = bs.reverse ++ r
  | 0, st, acc, as, r, h => by cases h; exact ⟨[], rfl, rfl, rfl⟩
  | n + 1, v :: st, acc, as, r, h => by
    obtain ⟨bs, h1, h2, h3⟩ := am_pop_e n st (v :: acc) as r h
    exact ⟨bs ++ [v], by rw [h1]; simp, by simp [h2], by rw [h3]; simp⟩
  | _ + 1, [], _, _, _, h => by cases h
noncomputable def pA (n : Nat) (st : List am_V) (K : List am_V → List am_V → Prop) : Prop := match am_pop n st [] with
  | some q => K q.1 q.2
  | none => False
theorem pA_e {n : Nat} {st : List am_V} {K : List am_V → List am_V → Prop} (h : pA n st K) : ∃ as r, as.length = n ∧ st = as.reverse ++ r ∧ K as r := by
  unfold pA at h; split at h
  · rename_i q hq
    obtain ⟨as, r⟩ := q
    obtain ⟨bs, h1, h2, h3⟩ := am_pop_e _ _ _ _ _ hq
    rw [List.append_nil] at h1
    subst h1
    exact ⟨_, _, h2, h3, h⟩
  · exact h.elim
/-- links to a nest mate's methods: carried beside the words -/
noncomputable def am_Kn (D : va_G) (ca : am_Ca) (U : State) : Prop := va_K D vwCl (am_ty ca) U ∧ (∀ q ∈ am_nst, va_Nw (.methodLinkNest q.1 q.2.1 q.2.2.1 q.2.2.2) U) ∧ va_AO "PaceBorder$Days" U
theorem am_Kn.warm {D : va_G} {ca : am_Ca} {s U : State} (hW : s.WarmedH U.vm) (h : am_Kn D ca s) : am_Kn D ca U := ⟨va_K.moved hW.alike h.1, fun q hq => va_Nw.warmM hW (h.2.1 q hq), va_AO.moved hW.alike h.2.2⟩
theorem am_Kn.same {D : va_G} {ca : am_Ca} {s U : State} (hv : s.vm = U.vm) (h : am_Kn D ca s) : am_Kn D ca U := ⟨va_K.moved (by rw [hv]; exact Vm.Alike.refl _) h.1, fun q hq => va_Nw.same rfl hv (h.2.1 q hq), va_AO.moved (by rw [hv]; exact Vm.Alike.refl _) h.2.2⟩
noncomputable def am_tb (k : Nat) : List Cond := am_kw k :: lw_g
noncomputable def am_rm (k : Nat) (sh sh' : am_Sh) : Room := { frames := am_fr k, cells := sh'.length - sh.length, slots := am_sl sh' - am_sl sh, locals := am_lc k }
/-- method k, called with these answers this, in every launch, at every place -/
noncomputable def am_Calls (k : Nat) (as : List am_V) (sh : am_Sh) (M : am_M) (v : Option am_V) (sh' : am_Sh) (M' : am_M) : Prop :=
  ∀ (l : Launch) (D : va_G) (ca : am_Ca) (base b : Nat), Met l (am_y k) (am_tb k) (am_rm k sh sh')
    (va_Pc (as.map (am_cv base b)) (fun U => U.heap.size = base + sh.length ∧ va_P D vwCl (am_ws base ca sh M) U.heap ∧ am_Kn D ca U))
    (fun _ st o t => o = .returned (v.map (am_cv base b)) ∧ (t.heap.size = base + sh'.length ∧ va_P D vwCl (am_ws base ca sh' M') t.heap) ∧ va_F (fun q => base ≤ q) st t)
    (sh'.length - sh.length) (am_sl sh' - am_sl sh) (fun q => base ≤ q)
noncomputable def am_cnd (c : Jvm.ClassFile.Cond) (x y : Int) : Prop := match c with
  | .eq => x = y
  | .ne => x ≠ y
  | .lt => x < y
  | .ge => y ≤ x
  | .gt => y < x
  | .le => x ≤ y
noncomputable def am_sw (x : Int) : Int → List Nat → (Nat → Prop) → Prop
  | _, [], _ => True
  | lo, t :: ts, K => (x = lo → K t) ∧ am_sw x (lo + 1) ts K
theorem am_sw_e {x : Int} {K : Nat → Prop} : ∀ (ts : List Nat) (lo : Int), am_sw x lo ts K → ∀ (j t : Nat), ts[j]? = some t → x = lo + j → K t
  | [], _, _, j, t, h, _ => by simp at h
  | a :: ts, lo, h, 0, t, ht, hx => by
    simp at ht; subst ht
    exact h.1 (by simpa using hx)
  | a :: ts, lo, h, j + 1, t, ht, hx => am_sw_e ts (lo + 1) h.2 j t (by simpa using ht) (by rw [hx]; push_cast; omega)
noncomputable def am_cpy (M : am_M) (s0 d sp dp n : Nat) : am_M := am_row M d (va_cpy (M s0) (M d) sp dp n)
noncomputable def am_stp (sc : Option (Nat × (Nat → Int))) (fin : Nat × Nat) (i : Instr) (f : List Nat) (lv : am_Lv) (st : List am_V) (sh : am_Sh) (M : am_M) (N : am_N) (J : Nat → am_N) (Rt : Option am_V → am_Sh → am_M → Prop) : Prop :=
  match i with
  | .iconst n => N lv (.inl n :: st) sh M
  | .bipush n => N lv (.inl n :: st) sh M
  | .sipush n => N lv (.inl n :: st) sh M
  | .lconst n => N lv (.inr (.inl ((n : Nat) : Int)) :: st) sh M
  | .ldc _ => N lv (.inl ((f.getD 0 0 : Nat) : Int) :: st) sh M
  | .ldc_w _ => N lv (.inl ((f.getD 0 0 : Nat) : Int) :: st) sh M
  | .ldc2_w _ => (match f with
    | [n] => N lv (.inr (.inl (n : Int)) :: st) sh M
    | [n, _] => N lv (.inr (.inl (-(n : Int))) :: st) sh M
    | _ => False)
  | .iload n => gI lv n fun x => N lv (.inl x :: st) sh M
  | .iload_n n => gI lv n fun x => N lv (.inl x :: st) sh M
  | .lload n => gL lv n fun x => N lv (.inr (.inl x) :: st) sh M
  | .lload_n n => gL lv n fun x => N lv (.inr (.inl x) :: st) sh M
  | .aload n => gX lv n fun x => N lv (.inr (.inr x) :: st) sh M
  | .aload_n n => gX lv n fun x => N lv (.inr (.inr x) :: st) sh M
  | .istore n => pI st fun x s => N (am_set lv n (.inl x)) s sh M
  | .istore_n n => pI st fun x s => N (am_set lv n (.inl x)) s sh M
  | .astore n => pX st fun x s => N (am_set lv n (.inr (.inr x))) s sh M
  | .astore_n n => pX st fun x s => N (am_set lv n (.inr (.inr x))) s sh M
  | .lstore n => pL st fun x s => N (am_setL lv n (.inr (.inl x))) s sh M
  | .lstore_n n => pL st fun x s => N (am_setL lv n (.inr (.inl x))) s sh M
  | .iinc n z => gI lv n fun x => N (am_set lv n (.inl (x + z))) st sh M
  | .iadd => pI st fun y s => pI s fun x s => N lv (.inl (x + y) :: s) sh M
  | .isub => pI st fun y s => pI s fun x s => N lv (.inl (x - y) :: s) sh M
  | .imul => pI st fun y s => pI s fun x s => N lv (.inl (x * y) :: s) sh M
  | .idiv => pI st fun y s => pI s fun x s => wI y ≠ 0 ∧ N lv (.inl ((wI x).tdiv (wI y)) :: s) sh M
  | .irem => pI st fun y s => pI s fun x s => wI y ≠ 0 ∧ N lv (.inl ((wI x).tmod (wI y)) :: s) sh M
  | .ineg => pI st fun x s => N lv (.inl (-x) :: s) sh M
  | .iand => pI st fun y s => pI s fun x s => N lv (.inl (b_and_ x y) :: s) sh M
  | .ior => pI st fun y s => pI s fun x s => N lv (.inl (b_or_ x y) :: s) sh M
  | .ishl => pI st fun y s => pI s fun x s => N lv (.inl (b_shl_ x y) :: s) sh M
  | .ishr => pI st fun y s => pI s fun x s => N lv (.inl (b_shr_ x y) :: s) sh M
  | .ladd => pL st fun y s => pL s fun x s => N lv (.inr (.inl (x + y)) :: s) sh M
  | .lmul => pL st fun y s => pL s fun x s => N lv (.inr (.inl (x * y)) :: s) sh M
  | .ldiv => pL st fun y s => pL s fun x s => wL y ≠ 0 ∧ N lv (.inr (.inl ((wL x).tdiv (wL y))) :: s) sh M
  | .lrem => pL st fun y s => pL s fun x s => wL y ≠ 0 ∧ N lv (.inr (.inl ((wL x).tmod (wL y))) :: s) sh M
  | .lshl => pI st fun y s => pL s fun x s => N lv (.inr (.inl (b_lshl_ x y)) :: s) sh M
  | .lcmp => pL st fun y s => pL s fun x s => N lv (.inl (c_lcmp x y) :: s) sh M
  | .i2l => pI st fun x s => N lv (.inr (.inl (wI x)) :: s) sh M
  | .l2i => pL st fun x s => N lv (.inl x :: s) sh M
  | .i2b => pI st fun x s => N lv (.inl (wB x) :: s) sh M
  | .dup => pV st fun x s => am_cat x = 1 ∧ N lv (x :: x :: s) sh M
  | .pop => pV st fun x s => am_cat x = 1 ∧ N lv s sh M
  | .pop2 => pV st fun x s => am_cat x = 2 ∧ N lv s sh M
  | .dup2 => pV st fun y s => pV s fun x s => am_cat y = 1 ∧ am_cat x = 1 ∧ N lv (y :: x :: y :: x :: s) sh M
  | .getfield _ => (match f with
    | [ci, k, fk] => pR st fun a s => pC sh a fun q => q.1 = ci ∧ k < q.2.1 ∧ (if fk = 2 then pF (q.2.2.getD k none) fun r => N lv (.inr (.inr (some r)) :: s) sh M else if fk = 1 then N lv (.inr (.inl (M a k)) :: s) sh M else N lv (.inl (M a k) :: s) sh M)
    | _ => False)
  | .putfield _ => (match f with
    | [ci, k, fk, _] => if fk = 2 then (pR st fun v s => pR s fun a s => pC sh a fun q => q.1 = ci ∧ k < q.2.1 ∧ k < q.2.2.length ∧ N lv s (sh.set a (q.1, q.2.1, q.2.2.set k (some v))) M)
      else if fk = 1 then (pL st fun x s => pR s fun a s => pC sh a fun q => q.1 = ci ∧ k < q.2.1 ∧ N lv s sh (am_up M a k x))
      else if fk = 3 then (pI st fun x s => pR s fun a s => pC sh a fun q => q.1 = ci ∧ k < q.2.1 ∧ (x = 0 ∨ x = 1) ∧ N lv s sh (am_up M a k x))
      else (pI st fun x s => pR s fun a s => pC sh a fun q => q.1 = ci ∧ k < q.2.1 ∧ N lv s sh (am_up M a k x))
    | _ => False)
  | .iaload => pI st fun i s => pX s fun a s => (match a with
    | some a => pC sh a fun q => q.1 = 10 ∧ (0 ≤ wI i ∧ wI i < q.2.1) ∧ N lv (.inl (M a (wI i).toNat) :: s) sh M
    | none => (match sc with
      | some c => (0 ≤ wI i ∧ wI i < c.1) ∧ N lv (.inl (c.2 (wI i).toNat) :: s) sh M
      | none => False))
  | .laload => pI st fun i s => pR s fun a s => pC sh a fun q => q.1 = 11 ∧ (0 ≤ wI i ∧ wI i < q.2.1) ∧ N lv (.inr (.inl (M a (wI i).toNat)) :: s) sh M
  | .aaload => pI st fun i s => pR s fun a s => pC sh a fun q => q.1 = 12 ∧ (0 ≤ wI i ∧ wI i < q.2.1) ∧ pF (q.2.2.getD (wI i).toNat none) fun r => N lv (.inr (.inr (some r)) :: s) sh M
  | .iastore => pI st fun x s => pI s fun i s => pR s fun a s => pC sh a fun q => q.1 = 10 ∧ (0 ≤ wI i ∧ wI i < q.2.1) ∧ N lv s sh (am_up M a (wI i).toNat x)
  | .lastore => pL st fun x s => pI s fun i s => pR s fun a s => pC sh a fun q => q.1 = 11 ∧ (0 ≤ wI i ∧ wI i < q.2.1) ∧ N lv s sh (am_up M a (wI i).toNat x)
  | .aastore => pR st fun v s => pI s fun i s => pR s fun a s => pC sh a fun q => q.1 = 12 ∧ (0 ≤ wI i ∧ wI i < q.2.1) ∧ (wI i).toNat < q.2.2.length ∧ (pC sh v fun qv => qv.1 = 1) ∧ N lv s (sh.set a (12, q.2.1, q.2.2.set (wI i).toNat (some v))) M
  | .arraylength => pX st fun a s => (match a with
    | some a => pC sh a fun q => q.1 = 10 ∧ N lv (.inl (q.2.1 : Int) :: s) sh M ∨ q.1 = 11 ∧ N lv (.inl (q.2.1 : Int) :: s) sh M
    | none => (match sc with
      | some c => N lv (.inl (c.1 : Int) :: s) sh M
      | none => False))
  | .new _ => (match f with
    | [ci, n] => ci < 10 ∧ sh.length + 1 ≤ fin.1 ∧ am_sl sh + n ≤ fin.2 ∧ N lv (.inr (.inr (some sh.length)) :: st) (sh ++ [(ci, n, List.replicate n none)]) (am_row M sh.length (fun _ => 0))
    | _ => False)
  | .newarray _ => (match f with
    | [kd] => pI st fun n s => 0 ≤ wI n ∧ (wI n).toNat * 8 ≤ 536870912 ∧ sh.length + 1 ≤ fin.1 ∧ am_sl sh + (wI n).toNat ≤ fin.2 ∧ N lv (.inr (.inr (some sh.length)) :: s) (sh ++ [(kd, (wI n).toNat, [])]) (am_row M sh.length (fun _ => 0))
    | _ => False)
  | .anewarray _ => pI st fun n s => 0 ≤ wI n ∧ (wI n).toNat * 8 ≤ 536870912 ∧ sh.length + 1 ≤ fin.1 ∧ am_sl sh + (wI n).toNat ≤ fin.2 ∧ N lv (.inr (.inr (some sh.length)) :: s) (sh ++ [(12, (wI n).toNat, List.replicate (wI n).toNat none)]) (am_row M sh.length (fun _ => 0))
  | .invokevirtual _ => (match f with
    | [k, n, ci, _] => pA n st fun as r => pR r fun a r => pC sh a fun q => q.1 = ci ∧ am_cats r ≤ 8 ∧ ∃ v M', am_Calls k (.inr (.inr (some a)) :: as) sh M v sh M' ∧ N lv (v.toList ++ r) sh M'
    | _ => False)
  | .invokestatic _ => (match f with
    | [k, n, _, _] => pA n st fun as r => am_cats r ≤ 8 ∧ ∃ v M', am_Calls k as sh M v sh M' ∧ N lv (v.toList ++ r) sh M'
    | [_] => pI st fun n s => pI s fun dp s => pR s fun d s => pI s fun sp s => pR s fun s0 s => pC sh s0 fun q0 => pC sh d fun q1 => (q0.1 = 10 ∧ q1.1 = 10 ∨ q0.1 = 11 ∧ q1.1 = 11) ∧ (0 ≤ wI sp ∧ 0 ≤ wI dp ∧ 0 ≤ wI n ∧ wI sp + wI n ≤ q0.2.1 ∧ wI dp + wI n ≤ q1.2.1) ∧ am_cats s ≤ 8 ∧ N lv s sh (am_cpy M s0 d (wI sp).toNat (wI dp).toNat (wI n).toNat)
    | [z, _] => if z = 2 then (pI st fun x s => am_cats s ≤ 8 ∧ N lv (.inl (if 0 ≤ wI x then x else 0 - x) :: s) sh M)
      else if z = 1 then (pI st fun y s => pI s fun x s => am_cats s ≤ 8 ∧ N lv (.inl (if wI y < wI x then y else x) :: s) sh M)
      else (pI st fun y s => pI s fun x s => am_cats s ≤ 8 ∧ N lv (.inl (if wI x < wI y then y else x) :: s) sh M)
    | _ => False)
  | .invokespecial _ => (match f with
    | [k, n] => pA n st fun as r => pR r fun a r => am_cats r ≤ 8 ∧ ∃ sh' M', am_Calls k (.inr (.inr (some a)) :: as) sh M none sh' M' ∧ (sh.length ≤ sh'.length ∧ sh'.length ≤ fin.1 ∧ am_sl sh ≤ am_sl sh' ∧ am_sl sh' ≤ fin.2) ∧ N lv r sh' M'
    | [_] => pR st fun _ s => am_cats s ≤ 8 ∧ N lv s sh M
    | _ => False)
  | .goto _ => (match f with
    | [t] => J t lv st sh M
    | _ => False)
  | .ifCond c _ => (match f with
    | [t, e] => pI st fun x s => (am_cnd c (wI x) 0 → J t lv s sh M) ∧ (¬ am_cnd c (wI x) 0 → J e lv s sh M)
    | _ => False)
  | .if_icmp c _ => (match f with
    | [t, e] => pI st fun y s => pI s fun x s => (am_cnd c (wI x) (wI y) → J t lv s sh M) ∧ (¬ am_cnd c (wI x) (wI y) → J e lv s sh M)
    | _ => False)
  | .ifnull _ => (match f with
    | [_, e] => pR st fun _ s => J e lv s sh M
    | _ => False)
  | .ifnonnull _ => (match f with
    | [t, _] => pR st fun _ s => J t lv s sh M
    | _ => False)
  | .tableswitch _ lo hi _ => (match f with
    | t :: ts => pI st fun x s => ((wI x < lo ∨ hi < wI x) → J t lv s sh M) ∧ am_sw (wI x) lo ts fun t => J t lv s sh M
    | _ => False)
  | .ireturn => pI st fun x s => s = [] ∧ (f = [1] → x = 0 ∨ x = 1) ∧ Rt (some (.inl x)) sh M
  | .lreturn => pL st fun x s => s = [] ∧ Rt (some (.inr (.inl x))) sh M
  | .return_ => st = [] ∧ Rt none sh M
  | _ => False
