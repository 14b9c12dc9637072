/-! Makings: the small machine run on data; what is written since the start is a list, newest first. -/
noncomputable abbrev cU : Type := List (Nat × Option (Nat × Int))
noncomputable abbrev cR : Type := Option (am_Sh × cU)
noncomputable abbrev cK : Type := am_Lv → List am_V → am_Sh → cU → cR
noncomputable def cm : cU → am_M
  | [] => fun _ _ => 0
  | (a, none) :: u => am_row (cm u) a (fun _ => 0)
  | (a, some q) :: u => am_up (cm u) a q.1 q.2
noncomputable def cg : cU → Nat → Nat → Int
  | [], _, _ => 0
  | (b, none) :: u, a, j => if a = b then 0 else cg u a j
  | (b, some q) :: u, a, j => if a = b ∧ j = q.1 then q.2 else cg u a j
theorem cg_e : ∀ (u : cU) (a j : Nat), cm u a j = cg u a j
  | [], _, _ => rfl
  | (b, none) :: u, a, j => by
    simp only [cm, cg, am_row]
    split
    · rfl
    · exact cg_e u a j
  | (b, some q) :: u, a, j => by
    simp only [cm, cg, am_up]
    by_cases h1 : a = b
    · by_cases h2 : j = q.1
      · rw [if_pos h1, if_pos h2, if_pos ⟨h1, h2⟩]
      · rw [if_pos h1, if_neg h2, if_neg (fun h => h2 h.2)]; exact cg_e u a j
    · rw [if_neg h1, if_neg (fun h => h1 h.1)]; exact cg_e u a j
noncomputable def qI (st : List am_V) (K : Int → List am_V → cR) : cR := match st with
  | .inl x :: s => K x s
  | _ => none
noncomputable def qL (st : List am_V) (K : Int → List am_V → cR) : cR := match st with
  | .inr (.inl x) :: s => K x s
  | _ => none
noncomputable def qR (st : List am_V) (K : Nat → List am_V → cR) : cR := match st with
  | .inr (.inr (some a)) :: s => K a s
  | _ => none
noncomputable def qX (st : List am_V) (K : Option Nat → List am_V → cR) : cR := match st with
  | .inr (.inr a) :: s => K a s
  | _ => none
noncomputable def qV (st : List am_V) (K : am_V → List am_V → cR) : cR := match st with
  | v :: s => K v s
  | _ => none
noncomputable def qC (sh : am_Sh) (a : Nat) (K : am_S → cR) : cR := match sh[a]? with
  | some q => K q
  | none => none
noncomputable def qF (x : Option Nat) (K : Nat → cR) : cR := match x with
  | some a => K a
  | none => none
noncomputable def kI (lv : am_Lv) (n : Nat) (K : Int → cR) : cR := match lv[n]? with
  | some (some (.inl x)) => K x
  | _ => none
noncomputable def kX (lv : am_Lv) (n : Nat) (K : Option Nat → cR) : cR := match lv[n]? with
  | some (some (.inr (.inr x))) => K x
  | _ => none
noncomputable def qA (n : Nat) (st : List am_V) (K : List am_V → List am_V → cR) : cR := match am_pop n st [] with
  | some q => K q.1 q.2
  | none => none
theorem qI_e {st : List am_V} {K : Int → List am_V → cR} {r : am_Sh × cU} (h : qI st K = some r) : ∃ x s, st = .inl x :: s ∧ K x s = some r := by
  unfold qI at h; split at h
  · exact ⟨_, _, rfl, h⟩
  · cases h
theorem qL_e {st : List am_V} {K : Int → List am_V → cR} {r : am_Sh × cU} (h : qL st K = some r) : ∃ x s, st = .inr (.inl x) :: s ∧ K x s = some r := by
  unfold qL at h; split at h
  · exact ⟨_, _, rfl, h⟩
  · cases h
theorem qR_e {st : List am_V} {K : Nat → List am_V → cR} {r : am_Sh × cU} (h : qR st K = some r) : ∃ x s, st = .inr (.inr (some x)) :: s ∧ K x s = some r := by
  unfold qR at h; split at h
  · exact ⟨_, _, rfl, h⟩
  · cases h
theorem qX_e {st : List am_V} {K : Option Nat → List am_V → cR} {r : am_Sh × cU} (h : qX st K = some r) : ∃ x s, st = .inr (.inr x) :: s ∧ K x s = some r := by
  unfold qX at h; split at h
  · exact ⟨_, _, rfl, h⟩
  · cases h
theorem qV_e {st : List am_V} {K : am_V → List am_V → cR} {r : am_Sh × cU} (h : qV st K = some r) : ∃ x s, st = x :: s ∧ K x s = some r := by
  unfold qV at h; split at h
  · exact ⟨_, _, rfl, h⟩
  · cases h
theorem qC_e {sh : am_Sh} {a : Nat} {K : am_S → cR} {r : am_Sh × cU} (h : qC sh a K = some r) : ∃ q, sh[a]? = some q ∧ K q = some r := by
  unfold qC at h; split at h
  · exact ⟨_, by assumption, h⟩
  · cases h
theorem qF_e {x : Option Nat} {K : Nat → cR} {r : am_Sh × cU} (h : qF x K = some r) : ∃ q, x = some q ∧ K q = some r := by
  unfold qF at h; split at h
  · exact ⟨_, rfl, h⟩
  · cases h
theorem kI_e {lv : am_Lv} {n : Nat} {K : Int → cR} {r : am_Sh × cU} (h : kI lv n K = some r) : ∃ x, lv[n]? = some (some (.inl x)) ∧ K x = some r := by
  unfold kI at h; split at h
  · exact ⟨_, by assumption, h⟩
  · cases h
theorem kX_e {lv : am_Lv} {n : Nat} {K : Option Nat → cR} {r : am_Sh × cU} (h : kX lv n K = some r) : ∃ x, lv[n]? = some (some (.inr (.inr x))) ∧ K x = some r := by
  unfold kX at h; split at h
  · exact ⟨_, by assumption, h⟩
  · cases h
theorem qA_e {n : Nat} {st : List am_V} {K : List am_V → List am_V → cR} {r : am_Sh × cU} (h : qA n st K = some r) : ∃ q, am_pop n st [] = some q ∧ K q.1 q.2 = some r := by
  unfold qA at h; split at h
  · exact ⟨_, by assumption, h⟩
  · cases h
theorem qf_s {c : Prop} [Decidable c] {a : cR} {r : am_Sh × cU} (h : (if c then a else none) = some r) : c ∧ a = some r := by
  split at h
  · exact ⟨by assumption, h⟩
  · cases h
noncomputable def cB (c : Jvm.ClassFile.Cond) (x y : Int) : Bool := match c with
  | .eq => decide (x = y)
  | .ne => decide (x ≠ y)
  | .lt => decide (x < y)
  | .ge => decide (y ≤ x)
  | .gt => decide (y < x)
  | .le => decide (x ≤ y)
theorem cB_e {c : Jvm.ClassFile.Cond} {x y : Int} : cB c x y = true ↔ am_cnd c x y := by
  cases c <;> simp [cB, am_cnd]
noncomputable def cW (F : Nat → List am_V → am_Sh → cU → cR) (i : Instr) (f : List Nat) (lv : am_Lv) (st : List am_V) (sh : am_Sh) (U : cU) (N : cK) (J : Nat → cK) : cR :=
  match i with
  | .iconst n => N lv (.inl n :: st) sh U
  | .bipush n => N lv (.inl n :: st) sh U
  | .sipush n => N lv (.inl n :: st) sh U
  | .lconst n => N lv (.inr (.inl ((n : Nat) : Int)) :: st) sh U
  | .iload n => kI lv n fun x => N lv (.inl x :: st) sh U
  | .iload_n n => kI lv n fun x => N lv (.inl x :: st) sh U
  | .aload n => kX lv n fun x => N lv (.inr (.inr x) :: st) sh U
  | .aload_n n => kX lv n fun x => N lv (.inr (.inr x) :: st) sh U
  | .istore n => qI st fun x s => N (am_set lv n (.inl x)) s sh U
  | .istore_n n => qI st fun x s => N (am_set lv n (.inl x)) s sh U
  | .astore n => qX st fun x s => N (am_set lv n (.inr (.inr x))) s sh U
  | .astore_n n => qX st fun x s => N (am_set lv n (.inr (.inr x))) s sh U
  | .iinc n z => kI lv n fun x => N (am_set lv n (.inl (x + z))) st sh U
  | .iadd => qI st fun y s => qI s fun x s => N lv (.inl (x + y) :: s) sh U
  | .imul => qI st fun y s => qI s fun x s => N lv (.inl (x * y) :: s) sh U
  | .dup => qV st fun x s => if am_cat x = 1 then N lv (x :: x :: s) sh U else none
  | .getfield _ => (match f with
    | [ci, k, fk] => qR st fun a s => qC sh a fun q => if q.1 = ci ∧ k < q.2.1 then (if fk = 2 then qF (q.2.2.getD k none) fun r => N lv (.inr (.inr (some r)) :: s) sh U else if fk = 1 then none else N lv (.inl (cg U a k) :: s) sh U) else none
    | _ => none)
  | .putfield _ => (match f with
    | [ci, k, fk, _] => if fk = 2 then (qR st fun v s => qR s fun a s => qC sh a fun q => if q.1 = ci ∧ k < q.2.1 ∧ k < q.2.2.length then N lv s (sh.set a (q.1, q.2.1, q.2.2.set k (some v))) U else none)
      else if fk = 1 then (qL st fun x s => qR s fun a s => qC sh a fun q => if q.1 = ci ∧ k < q.2.1 then N lv s sh ((a, some (k, x)) :: U) else none)
      else if fk = 3 then none
      else (qI st fun x s => qR s fun a s => qC sh a fun q => if q.1 = ci ∧ k < q.2.1 then N lv s sh ((a, some (k, x)) :: U) else none)
    | _ => none)
  | .iastore => qI st fun x s => qI s fun i s => qR s fun a s => qC sh a fun q => if q.1 = 10 ∧ 0 ≤ wI i ∧ wI i < q.2.1 then N lv s sh ((a, some ((wI i).toNat, x)) :: U) else none
  | .aastore => qR st fun v s => qI s fun i s => qR s fun a s => qC sh a fun q => qC sh v fun qv => if q.1 = 12 ∧ (0 ≤ wI i ∧ wI i < q.2.1) ∧ (wI i).toNat < q.2.2.length ∧ qv.1 = 1 then N lv s (sh.set a (12, q.2.1, q.2.2.set (wI i).toNat (some v))) U else none
  | .arraylength => qR st fun a s => qC sh a fun q => if q.1 = 10 then N lv (.inl (q.2.1 : Int) :: s) sh U else none
  | .new _ => (match f with
    | [ci, n] => if ci < 10 then N lv (.inr (.inr (some sh.length)) :: st) (sh ++ [(ci, n, List.replicate n none)]) ((sh.length, none) :: U) else none
    | _ => none)
  | .newarray _ => (match f with
    | [kd] => qI st fun n s => if 0 ≤ wI n ∧ (wI n).toNat * 8 ≤ 536870912 then N lv (.inr (.inr (some sh.length)) :: s) (sh ++ [(kd, (wI n).toNat, [])]) ((sh.length, none) :: U) else none
    | _ => none)
  | .anewarray _ => qI st fun n s => if 0 ≤ wI n ∧ (wI n).toNat * 8 ≤ 536870912 then N lv (.inr (.inr (some sh.length)) :: s) (sh ++ [(12, (wI n).toNat, List.replicate (wI n).toNat none)]) ((sh.length, none) :: U) else none
  | .invokestatic _ => (match f with
    | [k, n, _, _] => qA n st fun as r => if am_cats r ≤ 8 then (F k as sh U).bind fun z => if z.1 = sh then N lv r sh z.2 else none else none
    | [z, _] => if z = 0 then (qI st fun y s => qI s fun x s => if am_cats s ≤ 8 then N lv (.inl (if wI x < wI y then y else x) :: s) sh U else none) else none
    | _ => none)
  | .invokespecial _ => (match f with
    | [k, n] => qA n st fun as r => qR r fun a r => if am_cats r ≤ 8 then (F k (.inr (.inr (some a)) :: as) sh U).bind fun z => N lv r z.1 z.2 else none
    | [_] => qR st fun _ s => if am_cats s ≤ 8 then N lv s sh U else none
    | _ => none)
  | .goto _ => (match f with
    | [t] => J t lv st sh U
    | _ => none)
  | .if_icmp c _ => (match f with
    | [t, e] => qI st fun y s => qI s fun x s => if cB c (wI x) (wI y) = true then J t lv s sh U else J e lv s sh U
    | _ => none)
  | .return_ => (match st with
    | [] => some (sh, U)
    | _ => none)
  | _ => none
noncomputable def cMo (sh sh' : am_Sh) : Prop := sh.length ≤ sh'.length ∧ am_sl sh ≤ am_sl sh'
theorem cMo.rf (sh : am_Sh) : cMo sh sh := ⟨Nat.le_refl _, Nat.le_refl _⟩
theorem cMo.tr {a b c : am_Sh} (h : cMo a b) (h2 : cMo b c) : cMo a c := ⟨Nat.le_trans h.1 h2.1, Nat.le_trans h.2 h2.2⟩
theorem am_sl_set {n : Nat} {k : Nat} {rs : List (Option Nat)} : ∀ {sh : am_Sh} {a : Nat} {q : am_S}, sh[a]? = some q → q.2.1 = n → am_sl (sh.set a (k, n, rs)) = am_sl sh
  | [], a, q, h, _ => by simp at h
  | p :: sh, 0, q, h, e => by
    simp at h; subst h
    simp [am_sl, e]
  | p :: sh, a + 1, q, h, e => by
    have := am_sl_set (k := k) (rs := rs) (sh := sh) (a := a) (q := q) (by simpa using h) e
    simp [am_sl] at this ⊢
    omega
theorem cMo_set {sh sh' : am_Sh} {a k : Nat} {q : am_S} {rs : List (Option Nat)} (h : sh[a]? = some q) (m : cMo (sh.set a (k, q.2.1, rs)) sh') : cMo sh sh' := by
  obtain ⟨m1, m2⟩ := m
  rw [am_sl_set h rfl] at m2
  rw [List.length_set] at m1
  exact ⟨m1, m2⟩
theorem cMo_push {sh sh' : am_Sh} {q : am_S} (m : cMo (sh ++ [q]) sh') : sh.length + 1 ≤ sh'.length ∧ am_sl sh + q.2.1 ≤ am_sl sh' := by
  obtain ⟨m1, m2⟩ := m
  rw [am_sl_push] at m2
  rw [List.length_append] at m1
  exact ⟨m1, m2⟩
theorem cMo_of {sh sh' : am_Sh} {n : Nat} (m : sh.length + 1 ≤ sh'.length ∧ am_sl sh + n ≤ am_sl sh') : cMo sh sh' := ⟨by omega, by omega⟩
set_option maxHeartbeats 1000000 in
theorem cW_s {F : Nat → List am_V → am_Sh → cU → cR} {i : Instr} {f : List Nat} {lv : am_Lv} {st : List am_V} {sh : am_Sh} {U : cU} {N : cK} {J : Nat → cK} {N' : am_N} {J' : Nat → am_N} {r : am_Sh × cU}
    (hF : ∀ k as sh U z, F k as sh U = some z → am_Calls k as sh (cm U) none z.1 (cm z.2) ∧ cMo sh z.1)
    (hN : ∀ lv st sh U, N lv st sh U = some r → N' lv st sh (cm U) ∧ cMo sh r.1)
    (hJ : ∀ t lv st sh U, J t lv st sh U = some r → J' t lv st sh (cm U) ∧ cMo sh r.1)
    (h : cW F i f lv st sh U N J = some r) : am_stp none (r.1.length, am_sl r.1) i f lv st sh (cm U) N' J' (fun v1 s1 M1 => v1 = none ∧ s1 = r.1 ∧ M1 = cm r.2) ∧ cMo sh r.1 := by
  cases i <;> simp only [cW] at h <;> (try (cases h; done)) <;> simp only [am_stp]
  case iconst n => exact hN _ _ _ _ h
  case bipush n => exact hN _ _ _ _ h
  case sipush n => exact hN _ _ _ _ h
  case lconst n => exact hN _ _ _ _ h
  case iload n => replace h := kI_e h; obtain ⟨x, h1, h⟩ := h; simp only [gI, h1]; exact hN _ _ _ _ h
  case iload_n n => replace h := kI_e h; obtain ⟨x, h1, h⟩ := h; simp only [gI, h1]; exact hN _ _ _ _ h
  case aload n => replace h := kX_e h; obtain ⟨x, h1, h⟩ := h; simp only [gX, h1]; exact hN _ _ _ _ h
  case aload_n n => replace h := kX_e h; obtain ⟨x, h1, h⟩ := h; simp only [gX, h1]; exact hN _ _ _ _ h
  case istore n => replace h := qI_e h; obtain ⟨x, s, rfl, h⟩ := h; exact hN _ _ _ _ h
  case istore_n n => replace h := qI_e h; obtain ⟨x, s, rfl, h⟩ := h; exact hN _ _ _ _ h
  case astore n => replace h := qX_e h; obtain ⟨x, s, rfl, h⟩ := h; exact hN _ _ _ _ h
  case astore_n n => replace h := qX_e h; obtain ⟨x, s, rfl, h⟩ := h; exact hN _ _ _ _ h
  case iinc n z => replace h := kI_e h; obtain ⟨x, h1, h⟩ := h; simp only [gI, h1]; exact hN _ _ _ _ h
  case iadd => replace h := qI_e h; obtain ⟨y, s, rfl, h⟩ := h; replace h := qI_e h; obtain ⟨x, s, rfl, h⟩ := h; exact hN _ _ _ _ h
  case imul => replace h := qI_e h; obtain ⟨y, s, rfl, h⟩ := h; replace h := qI_e h; obtain ⟨x, s, rfl, h⟩ := h; exact hN _ _ _ _ h
  case dup =>
    replace h := qV_e h; obtain ⟨x, s, rfl, h⟩ := h
    replace h := qf_s h; obtain ⟨h1, h⟩ := h
    have := hN _ _ _ _ h
    exact ⟨⟨h1, this.1⟩, this.2⟩
  case getfield j =>
    split at h
    · replace h := qR_e h; obtain ⟨a, s, rfl, h⟩ := h
      replace h := qC_e h; obtain ⟨q, h1, h⟩ := h
      replace h := qf_s h; obtain ⟨h2, h⟩ := h
      simp only [pR, pC, h1]
      split at h
      · rename_i e
        replace h := qF_e h; obtain ⟨z, h3, h⟩ := h
        have := hN _ _ _ _ h
        rw [if_pos e]
        simp only [pF, h3]
        exact ⟨⟨h2.1, h2.2, this.1⟩, this.2⟩
      · rename_i e
        split at h
        · cases h
        · rename_i e1
          rw [← cg_e] at h
          have := hN _ _ _ _ h
          rw [if_neg e, if_neg e1]
          exact ⟨⟨h2.1, h2.2, this.1⟩, this.2⟩
    · cases h
  case putfield j =>
    split at h
    · dsimp only
      split at h
      · rename_i e
        replace h := qR_e h; obtain ⟨v, s, rfl, h⟩ := h
        replace h := qR_e h; obtain ⟨a, s, rfl, h⟩ := h
        replace h := qC_e h; obtain ⟨q, h1, h⟩ := h
        replace h := qf_s h; obtain ⟨h2, h⟩ := h
        have := hN _ _ _ _ h
        rw [if_pos e]
        simp only [pR, pC, h1]
        exact ⟨⟨h2.1, h2.2.1, h2.2.2, this.1⟩, cMo_set h1 this.2⟩
      · rename_i e
        rw [if_neg e]
        split at h
        · rename_i e1
          replace h := qL_e h; obtain ⟨v, s, rfl, h⟩ := h
          replace h := qR_e h; obtain ⟨a, s, rfl, h⟩ := h
          replace h := qC_e h; obtain ⟨q, h1, h⟩ := h
          replace h := qf_s h; obtain ⟨h2, h⟩ := h
          have := hN _ _ _ _ h
          rw [if_pos e1]
          simp only [pL, pR, pC, h1]
          exact ⟨⟨h2.1, h2.2, this.1⟩, this.2⟩
        · rename_i e1
          rw [if_neg e1]
          split at h
          · cases h
          · rename_i e2
            replace h := qI_e h; obtain ⟨v, s, rfl, h⟩ := h
            replace h := qR_e h; obtain ⟨a, s, rfl, h⟩ := h
            replace h := qC_e h; obtain ⟨q, h1, h⟩ := h
            replace h := qf_s h; obtain ⟨h2, h⟩ := h
            have := hN _ _ _ _ h
            rw [if_neg e2]
            simp only [pI, pR, pC, h1]
            exact ⟨⟨h2.1, h2.2, this.1⟩, this.2⟩
    · cases h
  case iastore =>
    replace h := qI_e h; obtain ⟨x, s, rfl, h⟩ := h
    replace h := qI_e h; obtain ⟨i, s, rfl, h⟩ := h
    replace h := qR_e h; obtain ⟨a, s, rfl, h⟩ := h
    replace h := qC_e h; obtain ⟨q, h1, h⟩ := h
    replace h := qf_s h; obtain ⟨h2, h⟩ := h
    have := hN _ _ _ _ h
    simp only [pI, pR, pC, h1]
    exact ⟨⟨h2.1, h2.2, this.1⟩, this.2⟩
  case aastore =>
    replace h := qR_e h; obtain ⟨v, s, rfl, h⟩ := h
    replace h := qI_e h; obtain ⟨i, s, rfl, h⟩ := h
    replace h := qR_e h; obtain ⟨a, s, rfl, h⟩ := h
    replace h := qC_e h; obtain ⟨q, h1, h⟩ := h
    replace h := qC_e h; obtain ⟨qv, h3, h⟩ := h
    replace h := qf_s h; obtain ⟨h2, h⟩ := h
    have := hN _ _ _ _ h
    simp only [pI, pR, pC, h1, h3]
    exact ⟨⟨h2.1, h2.2.1, h2.2.2.1, h2.2.2.2, this.1⟩, cMo_set h1 this.2⟩
  case arraylength =>
    replace h := qR_e h; obtain ⟨a, s, rfl, h⟩ := h
    replace h := qC_e h; obtain ⟨q, h1, h⟩ := h
    replace h := qf_s h; obtain ⟨h2, h⟩ := h
    have := hN _ _ _ _ h
    simp only [pX, pC, h1]
    exact ⟨Or.inl ⟨h2, this.1⟩, this.2⟩
  case new j =>
    split at h
    · replace h := qf_s h; obtain ⟨h2, h⟩ := h
      have := hN _ _ _ _ h
      have m := cMo_push this.2
      exact ⟨⟨h2, m.1, m.2, this.1⟩, cMo_of m⟩
    · cases h
  case newarray t =>
    split at h
    · replace h := qI_e h; obtain ⟨n, s, rfl, h⟩ := h
      replace h := qf_s h; obtain ⟨h2, h⟩ := h
      have := hN _ _ _ _ h
      have m := cMo_push this.2
      exact ⟨⟨h2.1, h2.2, m.1, m.2, this.1⟩, cMo_of m⟩
    · cases h
  case anewarray j =>
    replace h := qI_e h; obtain ⟨n, s, rfl, h⟩ := h
    replace h := qf_s h; obtain ⟨h2, h⟩ := h
    have := hN _ _ _ _ h
    have m := cMo_push this.2
    exact ⟨⟨h2.1, h2.2, m.1, m.2, this.1⟩, cMo_of m⟩
  case invokestatic j =>
    split at h
    · replace h := qA_e h; obtain ⟨q, h1, h⟩ := h
      replace h := qf_s h; obtain ⟨h2, h⟩ := h
      replace h := Option.bind_eq_some_iff.mp h; obtain ⟨z, h3, h⟩ := h
      replace h := qf_s h; obtain ⟨h4, h⟩ := h
      have := hN _ _ _ _ h
      have c := (hF _ _ _ _ _ h3).1
      rw [h4] at c
      simp only [pA, h1]
      exact ⟨⟨h2, none, _, c, this.1⟩, this.2⟩
    · replace h := qf_s h; obtain ⟨h1, h⟩ := h
      replace h := qI_e h; obtain ⟨y, s, rfl, h⟩ := h
      replace h := qI_e h; obtain ⟨x, s, rfl, h⟩ := h
      replace h := qf_s h; obtain ⟨h2, h⟩ := h
      have := hN _ _ _ _ h
      rw [h1]
      exact ⟨⟨h2, this.1⟩, this.2⟩
    · cases h
  case invokespecial j =>
    split at h
    · replace h := qA_e h; obtain ⟨q, h1, h⟩ := h
      replace h := qR_e h; obtain ⟨a, s, e, h⟩ := h
      replace h := qf_s h; obtain ⟨h2, h⟩ := h
      replace h := Option.bind_eq_some_iff.mp h; obtain ⟨z, h3, h⟩ := h
      have := hN _ _ _ _ h
      have c := hF _ _ _ _ _ h3
      simp only [pA, h1, pR, e]
      exact ⟨⟨h2, _, _, c.1, ⟨c.2.1, this.2.1, c.2.2, this.2.2⟩, this.1⟩, c.2.tr this.2⟩
    · replace h := qR_e h; obtain ⟨a, s, rfl, h⟩ := h
      replace h := qf_s h; obtain ⟨h2, h⟩ := h
      have := hN _ _ _ _ h
      exact ⟨⟨h2, this.1⟩, this.2⟩
    · cases h
  case goto off =>
    split at h
    · exact hJ _ _ _ _ _ h
    · cases h
  case if_icmp c off =>
    split at h
    · replace h := qI_e h; obtain ⟨y, s, rfl, h⟩ := h
      replace h := qI_e h; obtain ⟨x, s, rfl, h⟩ := h
      simp only [pI]
      split at h
      · rename_i e
        have := hJ _ _ _ _ _ h
        exact ⟨⟨fun _ => this.1, fun q => absurd (cB_e.mp e) q⟩, this.2⟩
      · rename_i e
        have := hJ _ _ _ _ _ h
        exact ⟨⟨fun q => absurd (cB_e.mpr q) e, fun _ => this.1⟩, this.2⟩
    · cases h
  case return_ =>
    split at h
    · have e := Option.some.inj h
      subst e
      exact ⟨by simp, cMo.rf _⟩
    · cases h
noncomputable def cBk (F : Nat → List am_V → am_Sh → cU → cR) (J : Nat → cK) (fall : Option Nat) : List am_E → cK
  | [], lv, st, sh, U => (match fall with
    | some t => J t lv st sh U
    | none => none)
  | e :: es, lv, st, sh, U => cW F e.1 e.2 lv st sh U (cBk F J fall es) J
noncomputable def cRun (F : Nat → List am_V → am_Sh → cU → cR) (bs : List am_B) : Nat → Nat → cK
  | 0, _, _, _, _, _ => none
  | n + 1, b, lv, st, sh, U => (match bs[b]? with
    | none => none
    | some q => cBk F (fun t => cRun F bs n (if 1000 ≤ t then t - 1000 else t)) q.2.2 q.2.1 lv st sh U)
theorem cBk_s {F : Nat → List am_V → am_Sh → cU → cR} {k : Nat} {tp : Nat → Nat} {J : Nat → cK} {fall : Option Nat} {r : am_Sh × cU}
    (hF : ∀ k as sh U z, F k as sh U = some z → am_Calls k as sh (cm U) none z.1 (cm z.2) ∧ cMo sh z.1)
    (hJ : ∀ t lv st sh U, J t lv st sh U = some r → am_At none k (tp t) lv st sh (cm U) none r.1 (cm r.2) ∧ cMo sh r.1) :
    ∀ (es : List am_E) (cs : List (Nat × List Nat)) (pc : Nat) (lv : am_Lv) (st : List am_V) (sh : am_Sh) (U : cU), am_ckB k tp pc es cs fall = true → cBk F J fall es lv st sh U = some r → am_At none k pc lv st sh (cm U) none r.1 (cm r.2) ∧ cMo sh r.1
  | [], [], pc, lv, st, sh, U, hc, h => by
    cases fall with
    | none => cases h
    | some t =>
      simp only [am_ckB, decide_eq_true_eq] at hc
      rw [← hc]
      exact hJ t lv st sh U h
  | e :: es, c :: cs, pc, lv, st, sh, U, hc, h => by
    simp only [am_ckB, Bool.and_eq_true, decide_eq_true_eq] at hc
    have := cW_s (N' := fun lv st sh M => am_At none k (pc + c.1) lv st sh M none r.1 (cm r.2)) (J' := fun t lv st sh M => am_At none k (tp t) lv st sh M none r.1 (cm r.2)) hF (fun lv st sh U hn => cBk_s hF hJ es cs (pc + c.1) lv st sh U hc.2 hn) hJ h
    exact ⟨am_step hc.1.1 hc.1.2 (fun _ _ _ _ h => h) (fun _ _ _ _ _ h => h) this.1, this.2⟩
  | [], _ :: _, pc, lv, st, sh, U, hc, h => by cases fall <;> simp [am_ckB] at hc
  | _ :: _, [], pc, lv, st, sh, U, hc, h => by cases fall <;> simp [am_ckB] at hc
theorem cRun_s {F : Nat → List am_V → am_Sh → cU → cR} {k : Nat} {bs : List am_B} {cs : List (List (Nat × List Nat))} (hck : am_ck k bs cs = true) {r : am_Sh × cU}
    (hF : ∀ k as sh U z, F k as sh U = some z → am_Calls k as sh (cm U) none z.1 (cm z.2) ∧ cMo sh z.1) :
    ∀ (n b : Nat) (lv : am_Lv) (st : List am_V) (sh : am_Sh) (U : cU), cRun F bs n b lv st sh U = some r → am_R none k bs b lv st sh (cm U) none r.1 (cm r.2) ∧ cMo sh r.1
  | 0, b, lv, st, sh, U, h => by cases h
  | n + 1, b, lv, st, sh, U, h => by
    unfold cRun at h
    split at h
    · cases h
    · rename_i q hq
      obtain ⟨c, hc⟩ := am_ckL_e bs cs hck b q hq
      have e1 : am_pc bs b = q.1 := by simp [am_pc, List.getD_eq_getElem?_getD, hq]
      unfold am_R
      rw [e1]
      exact cBk_s hF (fun t lv st sh U hj => cRun_s hck hF n _ lv st sh U hj) _ c _ lv st sh U hc h
/-- a table of makings: number, locals, blocks -/
noncomputable def cOk (q : Nat × Nat × List am_B) : Prop := plainName (am_y q.1).cls = true ∧ am_ml q.1 = q.2.1 ∧ am_pc q.2.2 0 = 0 ∧ ∃ cs, am_ck q.1 q.2.2 cs = true
noncomputable def cCall (T : List (Nat × Nat × List am_B)) : Nat → Nat → List am_V → am_Sh → cU → cR
  | 0, _, _, _, _ => none
  | n + 1, k, as, sh, U => (match T.find? (fun q => q.1 == k) with
    | none => none
    | some q => if (am_argl as).length ≤ q.2.1 then cRun (cCall T n) q.2.2 300 0 (am_ent q.2.1 as) [] sh U else none)
theorem cCall_s {T : List (Nat × Nat × List am_B)} (hT : ∀ q ∈ T, cOk q) : ∀ (n k : Nat) (as : List am_V) (sh : am_Sh) (U : cU) (z : am_Sh × cU), cCall T n k as sh U = some z → am_Calls k as sh (cm U) none z.1 (cm z.2) ∧ cMo sh z.1
  | 0, k, as, sh, U, z, h => by cases h
  | n + 1, k, as, sh, U, z, h => by
    unfold cCall at h
    split at h
    · cases h
    · rename_i q hq
      obtain ⟨hl, h⟩ := qf_s h
      have hk : q.1 = k := by simpa using List.find?_some hq
      obtain ⟨h1, h2, h3, cs, h4⟩ := hT q (List.mem_of_find?_eq_some hq)
      rw [hk] at h1 h2 h4
      obtain ⟨g1, g2⟩ := cRun_s h4 (cCall_s hT n) _ _ _ _ _ _ h
      exact ⟨am_enter h1 h2 h3 hl g2 g1, g2⟩
/-- what lies beyond all that was written -/
theorem cg_out {a n : Nat} : ∀ (u : cU), u.all (fun e => !(e.1 == a) || (match e.2 with
    | none => true
    | some q => decide (q.1 < n))) = true → ∀ j, n ≤ j → cg u a j = 0
  | [], _, _, _ => rfl
  | (b, none) :: u, h, j, hj => by
    simp only [List.all_cons, Bool.and_eq_true] at h
    simp only [cg]
    split
    · rfl
    · exact cg_out u h.2 j hj
  | (b, some q) :: u, h, j, hj => by
    simp only [List.all_cons, Bool.and_eq_true, Bool.or_eq_true, Bool.not_eq_true', beq_eq_false_iff_ne, ne_eq, decide_eq_true_eq] at h
    simp only [cg]
    rw [if_neg (fun e => by rcases h.1 with h1 | h1 <;> omega)]
    exact cg_out u h.2 j hj
noncomputable def cEq (r : cR) (sh : am_Sh) (U : cU) : Bool := match r with
  | some z => decide (z.1 = sh) && decide (z.2 = U)
  | none => false
theorem cEq_e {r : cR} {sh : am_Sh} {U : cU} (h : cEq r sh U = true) : r = some (sh, U) := by
  unfold cEq at h
  split at h
  · simp only [Bool.and_eq_true, decide_eq_true_eq] at h
    rw [← h.1, ← h.2]
  · cases h
/-- a row of numbers, as a function -/
theorem cm_row {u : cU} {a n : Nat} {g : Nat → Int} (h1 : u.all (fun e => !(e.1 == a) || (match e.2 with
    | none => true
    | some q => decide (q.1 < n))) = true) (h2 : (List.range n).all (fun j => decide (cg u a j = g j)) = true) (h3 : ∀ j, n ≤ j → g j = 0) : cm u a = g := by
  funext j
  rw [cg_e]
  by_cases hj : j < n
  · exact of_decide_eq_true (List.all_eq_true.mp h2 j (List.mem_range.mpr hj))
  · rw [cg_out u h1 j (by omega), h3 j (by omega)]
