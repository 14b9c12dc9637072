/-! The same small machine as a function: what a stretch answers, over the fixed shape sh; calls by a table of functions F. -/
noncomputable abbrev am_Rs : Type := Option (Int × am_M)
noncomputable abbrev am_K : Type := am_Lv → List am_V → am_M → am_Rs
noncomputable def vI (st : List am_V) (K : Int → List am_V → am_Rs) : am_Rs := match st with
  | .inl x :: s => K x s
  | _ => none
noncomputable def vL (st : List am_V) (K : Int → List am_V → am_Rs) : am_Rs := match st with
  | .inr (.inl x) :: s => K x s
  | _ => none
noncomputable def vR (st : List am_V) (K : Nat → List am_V → am_Rs) : am_Rs := match st with
  | .inr (.inr (some a)) :: s => K a s
  | _ => none
noncomputable def vX (st : List am_V) (K : Option Nat → List am_V → am_Rs) : am_Rs := match st with
  | .inr (.inr a) :: s => K a s
  | _ => none
noncomputable def vV (st : List am_V) (K : am_V → List am_V → am_Rs) : am_Rs := match st with
  | v :: s => K v s
  | _ => none
noncomputable def vC (sh : am_Sh) (a : Nat) (K : am_S → am_Rs) : am_Rs := match sh[a]? with
  | some q => K q
  | none => none
noncomputable def vF (r : Option Nat) (K : Nat → am_Rs) : am_Rs := match r with
  | some a => K a
  | none => none
noncomputable def hI (lv : am_Lv) (n : Nat) (K : Int → am_Rs) : am_Rs := match lv[n]? with
  | some (some (.inl x)) => K x
  | _ => none
noncomputable def hL (lv : am_Lv) (n : Nat) (K : Int → am_Rs) : am_Rs := match lv[n]? with
  | some (some (.inr (.inl x))) => K x
  | _ => none
noncomputable def hX (lv : am_Lv) (n : Nat) (K : Option Nat → am_Rs) : am_Rs := match lv[n]? with
  | some (some (.inr (.inr x))) => K x
  | _ => none
noncomputable def vA (n : Nat) (st : List am_V) (K : List am_V → List am_V → am_Rs) : am_Rs := match am_pop n st [] with
  | some q => K q.1 q.2
  | none => none
theorem vI_e {st : List am_V} {K : Int → List am_V → am_Rs} {r : Int × am_M} (h : vI st K = some r) : pI st fun x s => K x s = some r := by
  unfold vI at h; unfold pI; split at h
  · exact h
  · cases h
theorem vL_e {st : List am_V} {K : Int → List am_V → am_Rs} {r : Int × am_M} (h : vL st K = some r) : pL st fun x s => K x s = some r := by
  unfold vL at h; unfold pL; split at h
  · exact h
  · cases h
theorem vR_e {st : List am_V} {K : Nat → List am_V → am_Rs} {r : Int × am_M} (h : vR st K = some r) : pR st fun x s => K x s = some r := by
  unfold vR at h; unfold pR; split at h
  · exact h
  · cases h
theorem vX_e {st : List am_V} {K : Option Nat → List am_V → am_Rs} {r : Int × am_M} (h : vX st K = some r) : pX st fun x s => K x s = some r := by
  unfold vX at h; unfold pX; split at h
  · exact h
  · cases h
theorem vV_e {st : List am_V} {K : am_V → List am_V → am_Rs} {r : Int × am_M} (h : vV st K = some r) : pV st fun x s => K x s = some r := by
  unfold vV at h; unfold pV; split at h
  · exact h
  · cases h
theorem vC_e {sh : am_Sh} {a : Nat} {K : am_S → am_Rs} {r : Int × am_M} (h : vC sh a K = some r) : pC sh a fun q => K q = some r := by
  unfold vC at h; unfold pC; split at h
  · rename_i hq; rw [hq]; exact h
  · cases h
theorem vF_e {x : Option Nat} {K : Nat → am_Rs} {r : Int × am_M} (h : vF x K = some r) : pF x fun q => K q = some r := by
  unfold vF at h; unfold pF; split at h
  · exact h
  · cases h
theorem hI_e {lv : am_Lv} {n : Nat} {K : Int → am_Rs} {r : Int × am_M} (h : hI lv n K = some r) : gI lv n fun x => K x = some r := by
  unfold hI at h; unfold gI; split at h
  · rename_i hq; rw [hq]; exact h
  · cases h
theorem hL_e {lv : am_Lv} {n : Nat} {K : Int → am_Rs} {r : Int × am_M} (h : hL lv n K = some r) : gL lv n fun x => K x = some r := by
  unfold hL at h; unfold gL; split at h
  · rename_i hq; rw [hq]; exact h
  · cases h
theorem hX_e {lv : am_Lv} {n : Nat} {K : Option Nat → am_Rs} {r : Int × am_M} (h : hX lv n K = some r) : gX lv n fun x => K x = some r := by
  unfold hX at h; unfold gX; split at h
  · rename_i hq; rw [hq]; exact h
  · cases h
theorem vA_e {n : Nat} {st : List am_V} {K : List am_V → List am_V → am_Rs} {r : Int × am_M} (h : vA n st K = some r) : pA n st fun as s => K as s = some r := by
  unfold vA at h; unfold pA; split at h
  · rename_i hq; rw [hq]; exact h
  · cases h
theorem pI_m {st : List am_V} {K K' : Int → List am_V → Prop} (h : pI st K) (m : ∀ x s, K x s → K' x s) : pI st K' := by unfold pI at *; split at h <;> first | exact m _ _ h | exact h.elim
theorem pL_m {st : List am_V} {K K' : Int → List am_V → Prop} (h : pL st K) (m : ∀ x s, K x s → K' x s) : pL st K' := by unfold pL at *; split at h <;> first | exact m _ _ h | exact h.elim
theorem pR_m {st : List am_V} {K K' : Nat → List am_V → Prop} (h : pR st K) (m : ∀ x s, K x s → K' x s) : pR st K' := by unfold pR at *; split at h <;> first | exact m _ _ h | exact h.elim
theorem pX_m {st : List am_V} {K K' : Option Nat → List am_V → Prop} (h : pX st K) (m : ∀ x s, K x s → K' x s) : pX st K' := by unfold pX at *; split at h <;> first | exact m _ _ h | exact h.elim
theorem pV_m {st : List am_V} {K K' : am_V → List am_V → Prop} (h : pV st K) (m : ∀ x s, K x s → K' x s) : pV st K' := by unfold pV at *; split at h <;> first | exact m _ _ h | exact h.elim
theorem pC_m {sh : am_Sh} {a : Nat} {K K' : am_S → Prop} (h : pC sh a K) (m : ∀ q, K q → K' q) : pC sh a K' := by unfold pC at *; split at h <;> first | exact m _ h | exact h.elim
theorem pF_m {r : Option Nat} {K K' : Nat → Prop} (h : pF r K) (m : ∀ q, K q → K' q) : pF r K' := by unfold pF at *; split at h <;> first | exact m _ h | exact h.elim
theorem pA_m {n : Nat} {st : List am_V} {K K' : List am_V → List am_V → Prop} (h : pA n st K) (m : ∀ x s, K x s → K' x s) : pA n st K' := by unfold pA at *; split at h <;> first | exact m _ _ h | exact h.elim
theorem if_s {c : Prop} [Decidable c] {a : am_Rs} {r : Int × am_M} (h : (if c then a else none) = some r) : c ∧ a = some r := by
  split at h
  · exact ⟨by assumption, h⟩
  · cases h
/-- which cell stands in a row of cells, by its place -/
noncomputable def vQ : List (Option Nat) → Int → Int → (Nat → am_Rs) → am_Rs
  | [], _, _, _ => none
  | some r :: rs, n, j, K => if j = n then K r else vQ rs (n + 1) j K
  | none :: rs, n, j, K => if j = n then none else vQ rs (n + 1) j K
theorem vQ_e {K : Nat → am_Rs} {r : Int × am_M} {j : Int} : ∀ (rs : List (Option Nat)) (n : Int), vQ rs n j K = some r → ∃ (i a : Nat), i < rs.length ∧ j = n + i ∧ rs.getD i none = some a ∧ K a = some r
  | [], n, h => by cases h
  | some a :: rs, n, h => by
    unfold vQ at h; split at h
    · exact ⟨0, a, by simp, by simp; omega, rfl, h⟩
    · obtain ⟨i, b, h1, h2, h3, h4⟩ := vQ_e rs (n + 1) h
      exact ⟨i + 1, b, by simp; omega, by push_cast; omega, by simpa using h3, h4⟩
  | none :: rs, n, h => by
    unfold vQ at h; split at h
    · cases h
    · obtain ⟨i, b, h1, h2, h3, h4⟩ := vQ_e rs (n + 1) h
      exact ⟨i + 1, b, by simp; omega, by push_cast; omega, by simpa using h3, h4⟩
noncomputable def vP (rk : Nat) (x : Int) (s : List am_V) : List am_V := if rk = 0 then s else if rk = 1 then .inl x :: s else .inr (.inl x) :: s
noncomputable def am_rv (rk : Nat) (x : Int) : Option am_V := if rk = 0 then none else if rk = 1 then some (.inl x) else some (.inr (.inl x))
theorem am_rv_vP (rk : Nat) (x : Int) (s : List am_V) : (am_rv rk x).toList ++ s = vP rk x s := by unfold am_rv vP; split <;> (try split) <;> rfl
noncomputable def vB (c : Jvm.ClassFile.Cond) (x y : Int) (a b : am_Rs) : am_Rs := match c with
  | .eq => if x = y then a else b
  | .ne => if x = y then b else a
  | .lt => if x < y then a else b
  | .ge => if x < y then b else a
  | .gt => if y < x then a else b
  | .le => if y < x then b else a
theorem vB_e {c : Jvm.ClassFile.Cond} {x y : Int} {a b : am_Rs} {r : Int × am_M} (h : vB c x y a b = some r) : (am_cnd c x y → a = some r) ∧ (¬ am_cnd c x y → b = some r) := by
  cases c <;> simp only [vB] at h <;> simp only [am_cnd] <;> split at h <;> rename_i hc <;> refine ⟨fun q => ?_, fun q => ?_⟩ <;> first | exact h | (exact absurd hc (by omega)) | (exact absurd q (by omega))
noncomputable def vS (x : Int) : Int → List Nat → (Nat → am_Rs) → am_Rs → am_Rs
  | _, [], _, d => d
  | lo, t :: ts, K, d => if x = lo then K t else vS x (lo + 1) ts K d
theorem vS_e {x : Int} {K : Nat → am_Rs} {d : am_Rs} {r : Int × am_M} : ∀ (ts : List Nat) (lo : Int), vS x lo ts K d = some r → ((x < lo ∨ lo + ts.length - 1 < x) → d = some r) ∧ am_sw x lo ts fun t => K t = some r
  | [], lo, h => ⟨fun _ => h, trivial⟩
  | t :: ts, lo, h => by
    unfold vS at h
    split at h
    · rename_i e
      refine ⟨fun q => by simp at q; omega, fun _ => h, ?_⟩
      have : ∀ (ts : List Nat) (lo2 : Int), lo < lo2 → am_sw x lo2 ts fun t => K t = some r := by
        intro ts
        induction ts with
        | nil => intro _ _; trivial
        | cons a ts ih => intro lo2 hl; exact ⟨fun q => by omega, ih (lo2 + 1) (by omega)⟩
      exact this ts (lo + 1) (by omega)
    · rename_i e
      obtain ⟨h1, h2⟩ := vS_e ts (lo + 1) h
      exact ⟨fun q => h1 (by simp at q ⊢; omega), fun q => absurd q e, h2⟩
noncomputable def vW (sc : Option (Nat × (Nat → Int))) (sh : am_Sh) (F : Nat → List am_V → am_M → am_Rs) (i : Instr) (f : List Nat) (lv : am_Lv) (st : List am_V) (M : am_M) (N : am_K) (J : Nat → am_K) : am_Rs :=
  match i with
  | .iconst n => N lv (.inl n :: st) M
  | .bipush n => N lv (.inl n :: st) M
  | .sipush n => N lv (.inl n :: st) M
  | .lconst n => (match n with
    | 0 => N lv (.inr (.inl 0) :: st) M
    | 1 => N lv (.inr (.inl 1) :: st) M)
  | .ldc _ => N lv (.inl (Int.ofNat (f.getD 0 0)) :: st) M
  | .ldc_w _ => N lv (.inl (Int.ofNat (f.getD 0 0)) :: st) M
  | .ldc2_w _ => (match f with
    | [n] => N lv (.inr (.inl (Int.ofNat n)) :: st) M
    | [n, _] => N lv (.inr (.inl (-(Int.ofNat n))) :: st) M
    | _ => none)
  | .iload n => hI lv n fun x => N lv (.inl x :: st) M
  | .iload_n n => hI lv n fun x => N lv (.inl x :: st) M
  | .lload n => hL lv n fun x => N lv (.inr (.inl x) :: st) M
  | .lload_n n => hL lv n fun x => N lv (.inr (.inl x) :: st) M
  | .aload n => hX lv n fun x => N lv (.inr (.inr x) :: st) M
  | .aload_n n => hX lv n fun x => N lv (.inr (.inr x) :: st) M
  | .istore n => vI st fun x s => N (am_set lv n (.inl x)) s M
  | .istore_n n => vI st fun x s => N (am_set lv n (.inl x)) s M
  | .astore n => vX st fun x s => N (am_set lv n (.inr (.inr x))) s M
  | .astore_n n => vX st fun x s => N (am_set lv n (.inr (.inr x))) s M
  | .lstore n => vL st fun x s => N (am_setL lv n (.inr (.inl x))) s M
  | .lstore_n n => vL st fun x s => N (am_setL lv n (.inr (.inl x))) s M
  | .iinc n z => hI lv n fun x => N (am_set lv n (.inl (x + z))) st M
  | .iadd => vI st fun y s => vI s fun x s => N lv (.inl (x + y) :: s) M
  | .isub => vI st fun y s => vI s fun x s => N lv (.inl (x - y) :: s) M
  | .imul => vI st fun y s => vI s fun x s => N lv (.inl (x * y) :: s) M
  | .idiv => vI st fun y s => vI s fun x s => if wI y ≠ 0 then N lv (.inl ((wI x).tdiv (wI y)) :: s) M else none
  | .irem => vI st fun y s => vI s fun x s => if wI y ≠ 0 then N lv (.inl ((wI x).tmod (wI y)) :: s) M else none
  | .ineg => vI st fun x s => N lv (.inl (-x) :: s) M
  | .iand => vI st fun y s => vI s fun x s => N lv (.inl (b_and_ x y) :: s) M
  | .ior => vI st fun y s => vI s fun x s => N lv (.inl (b_or_ x y) :: s) M
  | .ishl => vI st fun y s => vI s fun x s => N lv (.inl (b_shl_ x y) :: s) M
  | .ishr => vI st fun y s => vI s fun x s => N lv (.inl (b_shr_ x y) :: s) M
  | .ladd => vL st fun y s => vL s fun x s => N lv (.inr (.inl (x + y)) :: s) M
  | .lmul => vL st fun y s => vL s fun x s => N lv (.inr (.inl (x * y)) :: s) M
  | .ldiv => vL st fun y s => vL s fun x s => if wL y ≠ 0 then N lv (.inr (.inl ((wL x).tdiv (wL y))) :: s) M else none
  | .lrem => vL st fun y s => vL s fun x s => if wL y ≠ 0 then N lv (.inr (.inl ((wL x).tmod (wL y))) :: s) M else none
  | .lshl => vI st fun y s => vL s fun x s => N lv (.inr (.inl (b_lshl_ x y)) :: s) M
  | .lcmp => vL st fun y s => vL s fun x s => N lv (.inl (c_lcmp x y) :: s) M
  | .i2l => vI st fun x s => N lv (.inr (.inl (wI x)) :: s) M
  | .l2i => vL st fun x s => N lv (.inl x :: s) M
  | .i2b => vI st fun x s => N lv (.inl (wB x) :: s) M
  | .dup => vV st fun x s => if am_cat x = 1 then N lv (x :: x :: s) M else none
  | .pop => vV st fun x s => if am_cat x = 1 then N lv s M else none
  | .dup2 => vV st fun y s => vV s fun x s => if am_cat y = 1 ∧ am_cat x = 1 then N lv (y :: x :: y :: x :: s) M else none
  | .getfield _ => (match f with
    | [ci, k, fk] => vR st fun a s => vC sh a fun q => if q.1 = ci ∧ k < q.2.1 then (if fk = 2 then vF (q.2.2.getD k none) fun r => N lv (.inr (.inr (some r)) :: s) M else if fk = 1 then N lv (.inr (.inl (M a k)) :: s) M else N lv (.inl (M a k) :: s) M) else none
    | _ => none)
  | .putfield _ => (match f with
    | [ci, k, fk, _] => if fk = 2 then none
      else if fk = 1 then (vL st fun x s => vR s fun a s => vC sh a fun q => if q.1 = ci ∧ k < q.2.1 then N lv s (am_up M a k x) else none)
      else if fk = 3 then (vI st fun x s => vR s fun a s => vC sh a fun q => if q.1 = ci ∧ k < q.2.1 then (if x = 0 ∨ x = 1 then N lv s (am_up M a k x) else none) else none)
      else (vI st fun x s => vR s fun a s => vC sh a fun q => if q.1 = ci ∧ k < q.2.1 then N lv s (am_up M a k x) else none)
    | _ => none)
  | .iaload => vI st fun i s => vX s fun a s => (match a with
    | some a => vC sh a fun q => if q.1 = 10 then (if 0 ≤ wI i ∧ wI i < (q.2.1 : Int) then N lv (.inl (M a (wI i).toNat) :: s) M else none) else none
    | none => (match sc with
      | some c => if 0 ≤ wI i ∧ wI i < (c.1 : Int) then N lv (.inl (c.2 (wI i).toNat) :: s) M else none
      | none => none))
  | .laload => vI st fun i s => vR s fun a s => vC sh a fun q => if q.1 = 11 then (if 0 ≤ wI i ∧ wI i < (q.2.1 : Int) then N lv (.inr (.inl (M a (wI i).toNat)) :: s) M else none) else none
  | .aaload => vI st fun i s => vR s fun a s => vC sh a fun q => if q.1 = 12 ∧ q.2.2.length = q.2.1 then vQ q.2.2 0 (wI i) fun r => N lv (.inr (.inr (some r)) :: s) M else none
  | .iastore => vI st fun x s => vI s fun i s => vR s fun a s => vC sh a fun q => if q.1 = 10 then (if 0 ≤ wI i ∧ wI i < (q.2.1 : Int) then N lv s (am_up M a (wI i).toNat x) else none) else none
  | .lastore => vL st fun x s => vI s fun i s => vR s fun a s => vC sh a fun q => if q.1 = 11 then (if 0 ≤ wI i ∧ wI i < (q.2.1 : Int) then N lv s (am_up M a (wI i).toNat x) else none) else none
  | .arraylength => vX st fun a s => (match a with
    | some a => vC sh a fun q => if q.1 = 10 ∨ q.1 = 11 then N lv (.inl (q.2.1 : Int) :: s) M else none
    | none => (match sc with
      | some c => N lv (.inl (c.1 : Int) :: s) M
      | none => none))
  | .invokevirtual _ => (match f with
    | [k, n, ci, rk] => vA n st fun as r => vR r fun a r => vC sh a fun q => if q.1 = ci ∧ am_cats r ≤ 8 then (F k (.inr (.inr (some a)) :: as) M).bind fun z => N lv (vP rk z.1 r) z.2 else none
    | _ => none)
  | .invokestatic _ => (match f with
    | [k, n, _, rk] => vA n st fun as r => if am_cats r ≤ 8 then (F k as M).bind fun z => N lv (vP rk z.1 r) z.2 else none
    | [_] => vI st fun n s => vI s fun dp s => vR s fun d s => vI s fun sp s => vR s fun s0 s => vC sh s0 fun q0 => vC sh d fun q1 => if (q0.1 = 10 ∧ q1.1 = 10 ∨ q0.1 = 11 ∧ q1.1 = 11) ∧ am_cats s ≤ 8 then (if 0 ≤ wI sp ∧ 0 ≤ wI dp ∧ 0 ≤ wI n ∧ wI sp + wI n ≤ (q0.2.1 : Int) ∧ wI dp + wI n ≤ (q1.2.1 : Int) then N lv s (am_cpy M s0 d (wI sp).toNat (wI dp).toNat (wI n).toNat) else none) else none
    | [z, _] => if z = 2 then (vI st fun x s => if am_cats s ≤ 8 then N lv (.inl (if 0 ≤ wI x then x else 0 - x) :: s) M else none)
      else if z = 1 then (vI st fun y s => vI s fun x s => if am_cats s ≤ 8 then N lv (.inl (if wI y < wI x then y else x) :: s) M else none)
      else (vI st fun y s => vI s fun x s => if am_cats s ≤ 8 then N lv (.inl (if wI x < wI y then y else x) :: s) M else none)
    | _ => none)
  | .goto _ => (match f with
    | [t] => J t lv st M
    | _ => none)
  | .ifCond c _ => (match f with
    | [t, e] => vI st fun x s => vB c (wI x) 0 (J t lv s M) (J e lv s M)
    | _ => none)
  | .if_icmp c _ => (match f with
    | [t, e] => vI st fun y s => vI s fun x s => vB c (wI x) (wI y) (J t lv s M) (J e lv s M)
    | _ => none)
  | .ifnull _ => (match f with
    | [_, e] => vR st fun _ s => J e lv s M
    | _ => none)
  | .ifnonnull _ => (match f with
    | [t, _] => vR st fun _ s => J t lv s M
    | _ => none)
  | .tableswitch _ lo hi _ => (match f with
    | t :: ts => vI st fun x s => if hi = lo + ts.length - 1 then vS (wI x) lo ts (fun t => J t lv s M) (J t lv s M) else none
    | _ => none)
  | .ireturn => vI st fun x s => (match s with
    | [] => if f = [1] then (if x = 0 ∨ x = 1 then some (x, M) else none) else some (x, M)
    | _ => none)
  | .lreturn => vL st fun x s => (match s with
    | [] => some (x, M)
    | _ => none)
  | .return_ => (match st with
    | [] => some (0, M)
    | _ => none)
  | _ => none
