/-! The check of a method's table against its code, and the rule for a stretch of it. -/
noncomputable def am_w (j : Nat) (w : Cond) : Bool := decide (am_tw j = some w) && goodWord w
theorem am_w_e {j : Nat} {w : Cond} (h : am_w j w = true) : w ∈ lw_g := by
  simp only [am_w, Bool.and_eq_true, decide_eq_true_eq] at h
  exact List.mem_filter.mpr ⟨am_tw_e h.1, h.2⟩
noncomputable def am_okb (k k2 n : Nat) : Bool := decide (k2 < am_kn) && decide ((am_y k2).cls ≠ "java/lang/invoke/MethodHandle" ∧ (am_y k2).cls ≠ "java/lang/invoke/VarHandle" ∧ (parseMethodDescriptor (am_y k2).desc).map (fun d => d.parameters.length) = some n ∧ am_fr k2 + 1 ≤ am_fr k ∧ 8 + (am_ml k2 + 11) + am_lc k2 ≤ am_lc k)
theorem am_okb_e {k k2 n : Nat} (h : am_okb k k2 n = true) : am_okc k k2 n := by
  simp only [am_okb, Bool.and_eq_true, decide_eq_true_eq] at h
  exact ⟨am_kwA _ h.1, h.2⟩
/-- what a method answers: 0 nothing, 1 an int, 2 a long -/
noncomputable def am_rk (k : Nat) : Nat := match am_rt k with
  | none => 0
  | some .long => 2
  | some _ => 1
noncomputable def am_lnk (k : Nat) (tp : Nat → Nat) (pc : Nat) (i : Instr) (len : Nat) (f ix : List Nat) : Bool :=
  match i with
  | .bipush n => decide (len = 2) && decide (-128 ≤ n ∧ n < 128)
  | .sipush n => decide (len = 3) && decide (-32768 ≤ n ∧ n < 32768)
  | .ldc j => decide (len = 2) && am_w (ix.getD 0 0) (.constant (am_y k).cls j (Int32.ofInt ((f.getD 0 0 : Nat) : Int)))
  | .ldc_w j => decide (len = 3) && am_w (ix.getD 0 0) (.constant (am_y k).cls j (Int32.ofInt ((f.getD 0 0 : Nat) : Int)))
  | .ldc2_w j => decide (len = 3) && (match f with
    | [n] => am_w (ix.getD 0 0) (.constantLong (am_y k).cls j (Int64.ofInt (n : Int)))
    | [n, _] => am_w (ix.getD 0 0) (.constantLong (am_y k).cls j (Int64.ofInt (-(n : Int))))
    | _ => false)
  | .iload _ => decide (len = 2)
  | .lload _ => decide (len = 2)
  | .aload _ => decide (len = 2)
  | .istore n => decide (len = 2) && decide (n < am_ml k)
  | .astore n => decide (len = 2) && decide (n < am_ml k)
  | .lstore n => decide (len = 2) && decide (n + 1 < am_ml k)
  | .istore_n n => decide (len = 1) && decide ((n : Nat) < am_ml k)
  | .astore_n n => decide (len = 1) && decide ((n : Nat) < am_ml k)
  | .lstore_n n => decide (len = 1) && decide ((n : Nat) + 1 < am_ml k)
  | .iinc n _ => decide (len = 3) && decide (n < am_ml k)
  | .getfield j => decide (len = 3) && (match f with
    | [ci, kk, fk] => (match vwCl[ci]? with
      | some q => decide (kk < q.2.2) && am_w (ix.getD 0 0) (.fieldLink (am_y k).cls j (q.2.1 kk).1 (q.2.1 kk).2.1 (q.2.1 kk).2.2.1) && decide (am_fk ci kk = fk)
      | none => false)
    | _ => false)
  | .putfield j => decide (len = 3) && (match f with
    | [ci, kk, fk, _] => (match vwCl[ci]? with
      | some q => decide (kk < q.2.2) && am_w (ix.getD 0 0) (.fieldLink (am_y k).cls j (q.2.1 kk).1 (q.2.1 kk).2.1 (q.2.1 kk).2.2.1) && decide (am_fk ci kk = fk) && decide ((q.2.1 kk).2.2.2 = false ∨ (q.2.1 kk).2.2.2 = true ∧ (am_y k).name = "<init>" ∧ (q.2.1 kk).1 = (am_y k).cls)
      | none => false)
    | _ => false)
  | .new j => decide (len = 3) && (match f with
    | [ci, n] => (match vwCl[ci]? with
      | some q => decide (q.2.2 = n) && am_w (ix.getD 0 0) (.classLink (am_y k).cls j q.1) && am_w (ix.getD 1 0) (.instantiable q.1 n) && am_w (ix.getD 2 0) (.initialized q.1)
      | none => false)
    | _ => false)
  | .newarray t => decide (len = 2) && (decide (t = .int ∧ f = [10]) || decide (t = .long ∧ f = [11]))
  | .anewarray j => decide (len = 3) && am_w (ix.getD 0 0) (.classLink (am_y k).cls j "PaceBorder$Days")
  | .invokevirtual j => decide (len = 3) && (match f with
    | [k2, n, ci, rk] => am_okb k k2 n && decide (am_rk k2 = rk) && decide (ci < 10) && decide ((am_y k2).cls = (vwCl.getD ci ("", TX0, 0)).1) && am_w (ix.getD 0 0) (.methodLink (am_y k).cls j (am_y k2)) && am_w (ix.getD 1 0) (.instanceMethod (am_y k2)) && am_w (ix.getD 2 0) (.selects (am_y k2).cls (am_y k2) (am_y k2)) && am_w (ix.getD 3 0) (.initialized (am_y k2).cls)
    | _ => false)
  | .invokestatic j => decide (len = 3) && (match f with
    | [k2, n, z, rk] => am_okb k k2 n && decide (am_rk k2 = rk) && am_w (ix.getD 1 0) (.static (am_y k2)) && am_w (ix.getD 2 0) (.initialized (am_y k2).cls) && (if z = 0 then am_w (ix.getD 0 0) (.methodLink (am_y k).cls j (am_y k2)) else am_nst.any fun q => decide (q.1 = (am_y k).cls ∧ q.2.1 = j ∧ q.2.2.1 = am_y k2))
    | [_] => am_w (ix.getD 0 0) (.methodLink (am_y k).cls j arraycopyName) && am_w (ix.getD 1 0) (.native arraycopyName) && am_w (ix.getD 2 0) (.static arraycopyName) && am_w (ix.getD 3 0) (.initialized "java/lang/System") && decide (1 ≤ am_fr k ∧ 26 ≤ am_lc k)
    | [z, _] => am_w (ix.getD 2 0) (.initialized "java/lang/Math") && decide (1 ≤ am_fr k ∧ 26 ≤ am_lc k) && (if z = 2 then am_w (ix.getD 0 0) (.methodLink (am_y k).cls j Lib.Math.abs.name) && am_w (ix.getD 1 0) (.static Lib.Math.abs.name) && am_w (ix.getD 3 0) (.code Lib.Math.abs.name Lib.Math.abs.code 1 (some .int))
      else if z = 1 then am_w (ix.getD 0 0) (.methodLink (am_y k).cls j Lib.Math.min.name) && am_w (ix.getD 1 0) (.static Lib.Math.min.name) && am_w (ix.getD 3 0) (.code Lib.Math.min.name Lib.Math.min.code 2 (some .int))
      else am_w (ix.getD 0 0) (.methodLink (am_y k).cls j Lib.Math.max.name) && am_w (ix.getD 1 0) (.static Lib.Math.max.name) && am_w (ix.getD 3 0) (.code Lib.Math.max.name Lib.Math.max.code 2 (some .int)))
    | _ => false)
  | .invokespecial j => decide (len = 3) && (match f with
    | [k2, n] => am_okb k k2 n && decide ((am_y k2).name = "<init>" ∧ am_rt k2 = none) && am_w (ix.getD 0 0) (.methodLink (am_y k).cls j (am_y k2)) && am_w (ix.getD 1 0) (.instanceMethod (am_y k2)) && am_w (ix.getD 2 0) (.initialized (am_y k2).cls)
    | [_] => am_w (ix.getD 0 0) (.methodLink (am_y k).cls j Lib.objectInit) && am_w (ix.getD 1 0) (.instanceMethod Lib.objectInit) && am_w (ix.getD 2 0) (.code Lib.objectInit ⟨#[0xb1]⟩ 1 none) && decide (1 ≤ am_fr k ∧ 26 ≤ am_lc k)
    | _ => false)
  | .goto off => decide (len = 3) && (match f with
    | [t] => decide ((pc : Int) + off = tp t)
    | _ => false)
  | .ifCond _ off => decide (len = 3) && (match f with
    | [t, e] => decide ((pc : Int) + off = tp t ∧ tp e = pc + 3)
    | _ => false)
  | .if_icmp _ off => decide (len = 3) && (match f with
    | [t, e] => decide ((pc : Int) + off = tp t ∧ tp e = pc + 3)
    | _ => false)
  | .ifnull off => decide (len = 3) && (match f with
    | [t, e] => decide ((pc : Int) + off = tp t ∧ tp e = pc + 3)
    | _ => false)
  | .ifnonnull off => decide (len = 3) && (match f with
    | [t, e] => decide ((pc : Int) + off = tp t ∧ tp e = pc + 3)
    | _ => false)
  | .tableswitch d lo hi offs => (match f with
    | t :: ts => decide ((pc : Int) + d = tp t ∧ hi = lo + ts.length - 1 ∧ offs.toList.map (fun o => (pc : Int) + o) = ts.map (fun t => (tp t : Int)))
    | _ => false)
  | .ireturn => decide (len = 1) && decide (am_rt k = some .int ∨ am_rt k = some .boolean ∧ f = [1])
  | .lreturn => decide (len = 1) && decide (am_rt k = some .long)
  | .return_ => decide (len = 1) && decide (am_rt k = none)
  | _ => decide (len = 1)
set_option maxHeartbeats 4000000 in
theorem am_step {sc : Option (Nat × (Nat → Int))} {k pc : Nat} {tp : Nat → Nat} {i : Instr} {len : Nat} {f ix : List Nat} {lv : am_Lv} {st : List am_V} {sh : am_Sh} {M : am_M} {v : Option am_V} {sh' : am_Sh} {M' : am_M} {N : am_N} {J : Nat → am_N}
    (hd : decode (am_cc k) pc = .ok (i, len)) (hl : am_lnk k tp pc i len f ix = true) (hN : ∀ lv st sh M, N lv st sh M → am_At sc k (pc + len) lv st sh M v sh' M') (hJ : ∀ t lv st sh M, J t lv st sh M → am_At sc k (tp t) lv st sh M v sh' M')
    (h : am_stp sc (sh'.length, am_sl sh') i f lv st sh M N J (fun v1 s1 M1 => v1 = v ∧ s1 = sh' ∧ M1 = M')) : am_At sc k pc lv st sh M v sh' M' := by
  cases i <;> try exact False.elim h
  all_goals simp only [am_lnk, Bool.and_eq_true, decide_eq_true_eq] at hl
  all_goals simp only [am_stp] at h
  case iconst n => subst hl; exact am_iconst hd (hN _ _ _ _ h)
  case bipush n => obtain ⟨rfl, h1, h2⟩ := hl; exact am_bipush hd h1 h2 (hN _ _ _ _ h)
  case sipush n => obtain ⟨rfl, h1, h2⟩ := hl; exact am_sipush hd h1 h2 (hN _ _ _ _ h)
  case lconst n => subst hl; exact am_lconst hd (hN _ _ _ _ h)
  case ldc j => obtain ⟨rfl, h1⟩ := hl; exact am_ldc hd (am_w_e h1) (hN _ _ _ _ h)
  case ldc_w j => obtain ⟨rfl, h1⟩ := hl; exact am_ldcw hd (am_w_e h1) (hN _ _ _ _ h)
  case ldc2_w j =>
    obtain ⟨rfl, h1⟩ := hl
    split at h
    · exact am_ldc2 hd (am_w_e h1) (hN _ _ _ _ h)
    · exact am_ldc2 hd (am_w_e h1) (hN _ _ _ _ h)
    · exact h.elim
  case iload n => subst hl; obtain ⟨x, h1, h2⟩ := gI_e h; exact am_iload hd h1 (hN _ _ _ _ h2)
  case iload_n n => subst hl; obtain ⟨x, h1, h2⟩ := gI_e h; exact am_iload_n hd h1 (hN _ _ _ _ h2)
  case lload n => subst hl; obtain ⟨x, h1, h2⟩ := gL_e h; exact am_lload hd h1 (hN _ _ _ _ h2)
  case lload_n n => subst hl; obtain ⟨x, h1, h2⟩ := gL_e h; exact am_lload_n hd h1 (hN _ _ _ _ h2)
  case aload n => subst hl; obtain ⟨x, h1, h2⟩ := gX_e h; exact am_aload hd h1 (hN _ _ _ _ h2)
  case aload_n n => subst hl; obtain ⟨x, h1, h2⟩ := gX_e h; exact am_aload_n hd h1 (hN _ _ _ _ h2)
  case istore n => obtain ⟨rfl, h1⟩ := hl; replace h := pI_e h; obtain ⟨x, s, rfl, h2⟩ := h; exact am_istore hd h1 (hN _ _ _ _ h2)
  case istore_n n => obtain ⟨rfl, h1⟩ := hl; replace h := pI_e h; obtain ⟨x, s, rfl, h2⟩ := h; exact am_istore_n hd h1 (hN _ _ _ _ h2)
  case astore n => obtain ⟨rfl, h1⟩ := hl; replace h := pX_e h; obtain ⟨x, s, rfl, h2⟩ := h; exact am_astore hd h1 (hN _ _ _ _ h2)
  case astore_n n => obtain ⟨rfl, h1⟩ := hl; replace h := pX_e h; obtain ⟨x, s, rfl, h2⟩ := h; exact am_astore_n hd h1 (hN _ _ _ _ h2)
  case lstore n => obtain ⟨rfl, h1⟩ := hl; replace h := pL_e h; obtain ⟨x, s, rfl, h2⟩ := h; exact am_lstore hd h1 (hN _ _ _ _ h2)
  case lstore_n n => obtain ⟨rfl, h1⟩ := hl; replace h := pL_e h; obtain ⟨x, s, rfl, h2⟩ := h; exact am_lstore_n hd h1 (hN _ _ _ _ h2)
  case iinc n z => obtain ⟨rfl, h1⟩ := hl; obtain ⟨x, h3, h2⟩ := gI_e h; exact am_iinc hd h1 h3 (hN _ _ _ _ h2)
  case iadd => subst hl; replace h := pI_e h; obtain ⟨y, s, rfl, h⟩ := h; replace h := pI_e h; obtain ⟨x, s, rfl, h⟩ := h; exact am_iadd hd (hN _ _ _ _ h)
  case isub => subst hl; replace h := pI_e h; obtain ⟨y, s, rfl, h⟩ := h; replace h := pI_e h; obtain ⟨x, s, rfl, h⟩ := h; exact am_isub hd (hN _ _ _ _ h)
  case imul => subst hl; replace h := pI_e h; obtain ⟨y, s, rfl, h⟩ := h; replace h := pI_e h; obtain ⟨x, s, rfl, h⟩ := h; exact am_imul hd (hN _ _ _ _ h)
  case idiv => subst hl; replace h := pI_e h; obtain ⟨y, s, rfl, h⟩ := h; replace h := pI_e h; obtain ⟨x, s, rfl, h⟩ := h; exact am_idiv hd h.1 (hN _ _ _ _ h.2)
  case irem => subst hl; replace h := pI_e h; obtain ⟨y, s, rfl, h⟩ := h; replace h := pI_e h; obtain ⟨x, s, rfl, h⟩ := h; exact am_irem hd h.1 (hN _ _ _ _ h.2)
  case ineg => subst hl; replace h := pI_e h; obtain ⟨x, s, rfl, h⟩ := h; exact am_ineg hd (hN _ _ _ _ h)
  case iand => subst hl; replace h := pI_e h; obtain ⟨y, s, rfl, h⟩ := h; replace h := pI_e h; obtain ⟨x, s, rfl, h⟩ := h; exact am_iand hd (hN _ _ _ _ h)
  case ior => subst hl; replace h := pI_e h; obtain ⟨y, s, rfl, h⟩ := h; replace h := pI_e h; obtain ⟨x, s, rfl, h⟩ := h; exact am_ior hd (hN _ _ _ _ h)
  case ishl => subst hl; replace h := pI_e h; obtain ⟨y, s, rfl, h⟩ := h; replace h := pI_e h; obtain ⟨x, s, rfl, h⟩ := h; exact am_ishl hd (hN _ _ _ _ h)
  case ishr => subst hl; replace h := pI_e h; obtain ⟨y, s, rfl, h⟩ := h; replace h := pI_e h; obtain ⟨x, s, rfl, h⟩ := h; exact am_ishr hd (hN _ _ _ _ h)
  case ladd => subst hl; replace h := pL_e h; obtain ⟨y, s, rfl, h⟩ := h; replace h := pL_e h; obtain ⟨x, s, rfl, h⟩ := h; exact am_ladd hd (hN _ _ _ _ h)
  case lmul => subst hl; replace h := pL_e h; obtain ⟨y, s, rfl, h⟩ := h; replace h := pL_e h; obtain ⟨x, s, rfl, h⟩ := h; exact am_lmul hd (hN _ _ _ _ h)
  case ldiv => subst hl; replace h := pL_e h; obtain ⟨y, s, rfl, h⟩ := h; replace h := pL_e h; obtain ⟨x, s, rfl, h⟩ := h; exact am_ldiv hd h.1 (hN _ _ _ _ h.2)
  case lrem => subst hl; replace h := pL_e h; obtain ⟨y, s, rfl, h⟩ := h; replace h := pL_e h; obtain ⟨x, s, rfl, h⟩ := h; exact am_lrem hd h.1 (hN _ _ _ _ h.2)
  case lshl => subst hl; replace h := pI_e h; obtain ⟨y, s, rfl, h⟩ := h; replace h := pL_e h; obtain ⟨x, s, rfl, h⟩ := h; exact am_lshl hd (hN _ _ _ _ h)
  case lcmp => subst hl; replace h := pL_e h; obtain ⟨y, s, rfl, h⟩ := h; replace h := pL_e h; obtain ⟨x, s, rfl, h⟩ := h; exact am_lcmp hd (hN _ _ _ _ h)
  case i2l => subst hl; replace h := pI_e h; obtain ⟨x, s, rfl, h⟩ := h; exact am_i2l hd (hN _ _ _ _ h)
  case l2i => subst hl; replace h := pL_e h; obtain ⟨x, s, rfl, h⟩ := h; exact am_l2i hd (hN _ _ _ _ h)
  case i2b => subst hl; replace h := pI_e h; obtain ⟨x, s, rfl, h⟩ := h; exact am_i2b hd (hN _ _ _ _ h)
  case dup => subst hl; replace h := pV_e h; obtain ⟨x, s, rfl, h⟩ := h; exact am_dup hd h.1 (hN _ _ _ _ h.2)
  case pop => subst hl; replace h := pV_e h; obtain ⟨x, s, rfl, h⟩ := h; exact am_pop1 hd h.1 (hN _ _ _ _ h.2)
  case pop2 => subst hl; replace h := pV_e h; obtain ⟨x, s, rfl, h⟩ := h; exact am_popL hd h.1 (hN _ _ _ _ h.2)
  case dup2 => subst hl; replace h := pV_e h; obtain ⟨y, s, rfl, h⟩ := h; replace h := pV_e h; obtain ⟨x, s, rfl, h⟩ := h; exact am_dup2 hd h.1 h.2.1 (hN _ _ _ _ h.2.2)
  case getfield j =>
    obtain ⟨rfl, hl⟩ := hl
    split at h
    · rename_i ci kk fk
      replace h := pR_e h; obtain ⟨a, s, rfl, h⟩ := h
      replace h := pC_e h; obtain ⟨q, ha, h1, h2, h⟩ := h
      subst h1
      dsimp only at hl
      split at hl
      · rename_i cq hcq
        simp only [Bool.and_eq_true, decide_eq_true_eq] at hl
        obtain ⟨⟨g1, g2⟩, g3⟩ := hl
        obtain ⟨C, T, n⟩ := cq
        split at h
        · rename_i e2
          replace h := pF_e h; obtain ⟨r, hr, h⟩ := h
          exact am_getv hd hcq g1 (am_w_e g2) ha h2 (fun base b => by simp only [am_fv, g3, e2, hr]; rfl) (hN _ _ _ _ h)
        · split at h
          · rename_i e1 e2
            exact am_getv hd hcq g1 (am_w_e g2) ha h2 (fun base b => by simp only [am_fv, g3, e2]; rfl) (hN _ _ _ _ h)
          · rename_i e1 e2
            exact am_getv hd hcq g1 (am_w_e g2) ha h2 (fun base b => by simp only [am_fv, g3, e1, e2, if_false]; rfl) (hN _ _ _ _ h)
      · cases hl
    · exact h.elim
  case putfield j =>
    obtain ⟨rfl, hl⟩ := hl
    split at h
    · rename_i ci kk fk fin
      dsimp only at hl
      split at hl
      · rename_i cq hcq
        simp only [Bool.and_eq_true, decide_eq_true_eq] at hl
        obtain ⟨⟨⟨g1, g2⟩, g3⟩, g4⟩ := hl
        obtain ⟨C, T, n⟩ := cq
        have hty := am_tyk_of hcq g1
        rw [g3] at hty
        dsimp only at hty
        split at h
        · rename_i e2
          replace h := pR_e h; obtain ⟨r, s, rfl, h⟩ := h
          replace h := pR_e h; obtain ⟨a, s, rfl, h⟩ := h
          replace h := pC_e h; obtain ⟨q, ha, h1, h2, h3, h⟩ := h
          subst h1
          refine am_putv (q2 := (q.1, q.2.1, q.2.2.set kk (some r))) hd hcq g1 (am_w_e g2) ha h2 g4 (fun base b ty hp => ?_) (fun base ca b => am_cell_ref (am_vw hcq) (by rw [g3, e2]) h2 h3) (fun _ _ => rfl) rfl (hN _ _ _ _ h)
          obtain ⟨ty2, p1, p2⟩ := hty
          have := p1.symm.trans hp
          cases this
          rw [e2] at p2
          unfold am_tyk at p2
          split at p2 <;> first | (cases p2; done) | exact ⟨rfl, rfl⟩
        · split at h
          · rename_i e1 e2
            replace h := pL_e h; obtain ⟨x, s, rfl, h⟩ := h
            replace h := pR_e h; obtain ⟨a, s, rfl, h⟩ := h
            replace h := pC_e h; obtain ⟨q, ha, h1, h2, h⟩ := h
            subst h1
            rw [← am_setself ha] at h
            refine am_putv (q2 := q) hd hcq g1 (am_w_e g2) ha h2 g4 (fun base b ty hp => ?_) (fun base ca b => am_cell_up (x := x) (am_vw hcq) (by rw [g3]; exact e1) h2 (by simp only [am_fv, g3, e2]; rfl)) (fun _ h' => am_up_ne h') rfl (hN _ _ _ _ h)
            obtain ⟨ty2, p1, p2⟩ := hty
            have := p1.symm.trans hp
            cases this
            rw [e2] at p2
            unfold am_tyk at p2
            split at p2 <;> first | (cases p2; done) | exact ⟨rfl, rfl⟩
          · split at h
            · rename_i e1 e2 e3
              replace h := pI_e h; obtain ⟨x, s, rfl, h⟩ := h
              replace h := pR_e h; obtain ⟨a, s, rfl, h⟩ := h
              replace h := pC_e h; obtain ⟨q, ha, h1, h2, hx, h⟩ := h
              subst h1
              rw [← am_setself ha] at h
              refine am_putv (q2 := q) hd hcq g1 (am_w_e g2) ha h2 g4 (fun base b ty hp => ?_) (fun base ca b => am_cell_up (x := x) (am_vw hcq) (by rw [g3]; exact e1) h2 (by simp only [am_fv, g3, e3]; rfl)) (fun _ h' => am_up_ne h') rfl (hN _ _ _ _ h)
              obtain ⟨ty2, p1, p2⟩ := hty
              have := p1.symm.trans hp
              cases this
              rw [e3] at p2
              unfold am_tyk at p2
              split at p2 <;> first | (cases p2; done) | (rcases hx with rfl | rfl <;> exact ⟨rfl, rfl⟩)
            · rename_i e1 e2 e3
              replace h := pI_e h; obtain ⟨x, s, rfl, h⟩ := h
              replace h := pR_e h; obtain ⟨a, s, rfl, h⟩ := h
              replace h := pC_e h; obtain ⟨q, ha, h1, h2, h⟩ := h
              subst h1
              rw [← am_setself ha] at h
              refine am_putv (q2 := q) hd hcq g1 (am_w_e g2) ha h2 g4 (fun base b ty hp => ?_) (fun base ca b => am_cell_up (x := x) (am_vw hcq) (by rw [g3]; exact e1) h2 (by simp only [am_fv, g3, e1, e2, if_false]; rfl)) (fun _ h' => am_up_ne h') rfl (hN _ _ _ _ h)
              obtain ⟨ty2, p1, p2⟩ := hty
              have := p1.symm.trans hp
              cases this
              unfold am_tyk at p2
              split at p2 <;> first | (rw [beq_iff_eq] at p2; omega) | (cases p2; done) | exact ⟨rfl, rfl⟩
      · cases hl
    · exact h.elim
  case iaload =>
    subst hl
    replace h := pI_e h; obtain ⟨j, s, rfl, h⟩ := h
    replace h := pX_e h; obtain ⟨a, s, rfl, h⟩ := h
    split at h
    · replace h := pC_e h; obtain ⟨q, ha, h1, h2, h⟩ := h
      obtain ⟨kd, n, rs⟩ := q
      dsimp only at h1
      subst h1
      exact am_iald hd ha h2 (hN _ _ _ _ h)
    · split at h
      · exact am_sld hd rfl h.1 (hN _ _ _ _ h.2)
      · exact h.elim
  case laload =>
    subst hl
    replace h := pI_e h; obtain ⟨j, s, rfl, h⟩ := h
    replace h := pR_e h; obtain ⟨a, s, rfl, h⟩ := h
    replace h := pC_e h; obtain ⟨q, ha, h1, h2, h⟩ := h
    obtain ⟨kd, n, rs⟩ := q
    dsimp only at h1
    subst h1
    exact am_lald hd ha h2 (hN _ _ _ _ h)
  case aaload =>
    subst hl
    replace h := pI_e h; obtain ⟨j, s, rfl, h⟩ := h
    replace h := pR_e h; obtain ⟨a, s, rfl, h⟩ := h
    replace h := pC_e h; obtain ⟨q, ha, h1, h2, h⟩ := h
    obtain ⟨kd, n, rs⟩ := q
    dsimp only at h1
    subst h1
    replace h := pF_e h; obtain ⟨r, hr, h⟩ := h
    exact am_aald hd ha h2 hr (hN _ _ _ _ h)
  case iastore =>
    subst hl
    replace h := pI_e h; obtain ⟨x, s, rfl, h⟩ := h
    replace h := pI_e h; obtain ⟨j, s, rfl, h⟩ := h
    replace h := pR_e h; obtain ⟨a, s, rfl, h⟩ := h
    replace h := pC_e h; obtain ⟨q, ha, h1, h2, h⟩ := h
    obtain ⟨kd, n, rs⟩ := q
    dsimp only at h1
    subst h1
    exact am_iast hd ha h2 (hN _ _ _ _ h)
  case lastore =>
    subst hl
    replace h := pL_e h; obtain ⟨x, s, rfl, h⟩ := h
    replace h := pI_e h; obtain ⟨j, s, rfl, h⟩ := h
    replace h := pR_e h; obtain ⟨a, s, rfl, h⟩ := h
    replace h := pC_e h; obtain ⟨q, ha, h1, h2, h⟩ := h
    obtain ⟨kd, n, rs⟩ := q
    dsimp only at h1
    subst h1
    exact am_last hd ha h2 (hN _ _ _ _ h)
  case aastore =>
    subst hl
    replace h := pR_e h; obtain ⟨r, s, rfl, h⟩ := h
    replace h := pI_e h; obtain ⟨j, s, rfl, h⟩ := h
    replace h := pR_e h; obtain ⟨a, s, rfl, h⟩ := h
    replace h := pC_e h; obtain ⟨q, ha, h1, h2, h3, h4, h⟩ := h
    obtain ⟨qv, hv, h5⟩ := pC_e h4
    obtain ⟨kd, n, rs⟩ := q
    dsimp only at h1
    subst h1
    exact am_aast hd ha h2 h3 hv h5 (hN _ _ _ _ h)
  case arraylength =>
    subst hl
    replace h := pX_e h; obtain ⟨a, s, rfl, h⟩ := h
    split at h
    · replace h := pC_e h; obtain ⟨q, ha, h⟩ := h
      rcases h with ⟨h1, h⟩ | ⟨h1, h⟩
      · exact am_alen (n := 0) hd ha (Or.inl h1) (hN _ _ _ _ h)
      · exact am_alen (n := 0) hd ha (Or.inr h1) (hN _ _ _ _ h)
    · split at h
      · exact am_slen hd rfl (hN _ _ _ _ h)
      · exact h.elim
  case new j =>
    obtain ⟨rfl, hl⟩ := hl
    split at h
    · dsimp only at hl
      split at hl
      · rename_i cq hcq
        simp only [Bool.and_eq_true, decide_eq_true_eq] at hl
        obtain ⟨⟨⟨g1, g2⟩, g3⟩, g4⟩ := hl
        obtain ⟨C, T, n⟩ := cq
        dsimp only at g1
        subst g1
        exact am_new hd hcq (am_w_e g2) (am_w_e g3) (am_w_e g4) ⟨h.2.1, h.2.2.1⟩ (hN _ _ _ _ h.2.2.2)
      · cases hl
    · exact h.elim
  case newarray t =>
    obtain ⟨rfl, hl⟩ := hl
    simp only [Bool.or_eq_true, decide_eq_true_eq] at hl
    rcases hl with ⟨rfl, rfl⟩ | ⟨rfl, rfl⟩
    · replace h := pI_e h; obtain ⟨n, s, rfl, h⟩ := h
      exact am_newai hd am_ac_int h.1 h.2.1 ⟨h.2.2.1, h.2.2.2.1⟩ (hN _ _ _ _ h.2.2.2.2)
    · replace h := pI_e h; obtain ⟨n, s, rfl, h⟩ := h
      exact am_newal hd am_ac_long h.1 h.2.1 ⟨h.2.2.1, h.2.2.2.1⟩ (hN _ _ _ _ h.2.2.2.2)
  case anewarray j =>
    obtain ⟨rfl, hl⟩ := hl
    replace h := pI_e h; obtain ⟨n, s, rfl, h⟩ := h
    exact am_newq hd (am_w_e hl) h.1 h.2.1 ⟨h.2.2.1, h.2.2.2.1⟩ (hN _ _ _ _ h.2.2.2.2)
  case invokevirtual j =>
    obtain ⟨rfl, hl⟩ := hl
    split at h
    · replace h := pA_e h; obtain ⟨as, r, hn, rfl, h⟩ := h
      replace h := pR_e h; obtain ⟨a, r, rfl, h⟩ := h
      replace h := pC_e h; obtain ⟨q, ha, h1, h2, w, M1, hM, h⟩ := h
      simp only [Bool.and_eq_true, decide_eq_true_eq] at hl
      obtain ⟨⟨⟨⟨⟨⟨⟨g1, -⟩, g2⟩, g3⟩, g4⟩, g5⟩, g6⟩, g7⟩ := hl
      exact am_callV hd (am_okb_e g1) g3 g2 (am_w_e g4) (am_w_e g5) (am_w_e g6) (am_w_e g7) hn ha h1 h2 hM (hN _ _ _ _ h)
    · exact h.elim
  case invokestatic j =>
    obtain ⟨rfl, hl⟩ := hl
    split at h
    · replace h := pA_e h; obtain ⟨as, r, hn, rfl, h2, w, M1, hM, h⟩ := h
      simp only [Bool.and_eq_true] at hl
      obtain ⟨⟨⟨⟨g1, -⟩, g2⟩, g3⟩, g4⟩ := hl
      split at g4
      · exact am_callS hd (am_okb_e g1) (am_w_e g4) (am_w_e g2) (am_w_e g3) hn h2 hM (hN _ _ _ _ h)
      · obtain ⟨q, hq, hq2⟩ := List.any_eq_true.mp g4
        rw [decide_eq_true_eq] at hq2
        obtain ⟨x1, x2, x3, x4⟩ := q
        obtain ⟨e1, e2, e3⟩ := hq2
        dsimp only at e1 e2 e3
        subst e1; subst e2; subst e3
        exact am_callN hd (am_okb_e g1) hq (am_w_e g2) (am_w_e g3) hn h2 hM (hN _ _ _ _ h)
    · replace h := pI_e h; obtain ⟨n, s, rfl, h⟩ := h
      replace h := pI_e h; obtain ⟨dp, s, rfl, h⟩ := h
      replace h := pR_e h; obtain ⟨d, s, rfl, h⟩ := h
      replace h := pI_e h; obtain ⟨sp, s, rfl, h⟩ := h
      replace h := pR_e h; obtain ⟨s0, s, rfl, h⟩ := h
      replace h := pC_e h; obtain ⟨q0, h0, h⟩ := h
      replace h := pC_e h; obtain ⟨q1, h1, h⟩ := h
      simp only [Bool.and_eq_true, decide_eq_true_eq] at hl
      obtain ⟨⟨⟨⟨g1, g2⟩, g3⟩, g4⟩, g5, g6⟩ := hl
      exact am_copy hd (am_w_e g1) (am_w_e g2) (am_w_e g3) (am_w_e g4) g5 g6 h0 h1 h.1 h.2.1 h.2.2.1 (hN _ _ _ _ h.2.2.2)
    · simp only [Bool.and_eq_true, decide_eq_true_eq] at hl
      obtain ⟨⟨g1, g2, g3⟩, g4⟩ := hl
      split at h
      · rename_i e1
        rw [if_pos e1] at g4
        simp only [Bool.and_eq_true] at g4
        obtain ⟨⟨g5, g6⟩, g7⟩ := g4
        replace h := pI_e h; obtain ⟨x, s, rfl, h⟩ := h
        exact am_mabs hd (am_w_e g5) (am_w_e g6) (am_w_e g1) (am_w_e g7) g2 g3 h.1 (hN _ _ _ _ h.2)
      · rename_i e1
        rw [if_neg e1] at g4
        split at h
        · rename_i e2
          rw [if_pos e2] at g4
          simp only [Bool.and_eq_true] at g4
          obtain ⟨⟨g5, g6⟩, g7⟩ := g4
          replace h := pI_e h; obtain ⟨y, s, rfl, h⟩ := h
          replace h := pI_e h; obtain ⟨x, s, rfl, h⟩ := h
          exact am_mmin hd (am_w_e g5) (am_w_e g6) (am_w_e g1) (am_w_e g7) g2 g3 h.1 (hN _ _ _ _ h.2)
        · rename_i e2
          rw [if_neg e2] at g4
          simp only [Bool.and_eq_true] at g4
          obtain ⟨⟨g5, g6⟩, g7⟩ := g4
          replace h := pI_e h; obtain ⟨y, s, rfl, h⟩ := h
          replace h := pI_e h; obtain ⟨x, s, rfl, h⟩ := h
          exact am_mmax hd (am_w_e g5) (am_w_e g6) (am_w_e g1) (am_w_e g7) g2 g3 h.1 (hN _ _ _ _ h.2)
    · exact h.elim
  case invokespecial j =>
    obtain ⟨rfl, hl⟩ := hl
    split at h
    · replace h := pA_e h; obtain ⟨as, r, hn, rfl, h⟩ := h
      replace h := pR_e h; obtain ⟨a, r, rfl, h2, sh1, M1, hM, hg, h⟩ := h
      simp only [Bool.and_eq_true, decide_eq_true_eq] at hl
      obtain ⟨⟨⟨⟨g1, g2, g3⟩, g4⟩, g5⟩, g6⟩ := hl
      exact am_callI hd (am_okb_e g1) g2 g3 (am_w_e g4) (am_w_e g5) (am_w_e g6) hn h2 hM hg (hN _ _ _ _ h)
    · replace h := pR_e h; obtain ⟨a, r, rfl, h2, h⟩ := h
      simp only [Bool.and_eq_true, decide_eq_true_eq] at hl
      obtain ⟨⟨⟨g1, g2⟩, g3⟩, g4, g5⟩ := hl
      exact am_objI hd (am_w_e g1) (am_w_e g2) (am_w_e g3) g4 g5 h2 (hN _ _ _ _ h)
    · exact h.elim
  case goto off =>
    obtain ⟨rfl, hl⟩ := hl
    split at h
    · rw [decide_eq_true_eq] at hl
      exact am_goto hd hl (hJ _ _ _ _ _ h)
    · exact h.elim
  case ifCond cd off =>
    obtain ⟨rfl, hl⟩ := hl
    split at h
    · rw [decide_eq_true_eq] at hl
      replace h := pI_e h; obtain ⟨x, s, rfl, h⟩ := h
      exact am_if hd hl.1 (fun q => hJ _ _ _ _ _ (h.1 q)) (fun q => hl.2 ▸ hJ _ _ _ _ _ (h.2 q))
    · exact h.elim
  case if_icmp cd off =>
    obtain ⟨rfl, hl⟩ := hl
    split at h
    · rw [decide_eq_true_eq] at hl
      replace h := pI_e h; obtain ⟨y, s, rfl, h⟩ := h
      replace h := pI_e h; obtain ⟨x, s, rfl, h⟩ := h
      exact am_icmp hd hl.1 (fun q => hJ _ _ _ _ _ (h.1 q)) (fun q => hl.2 ▸ hJ _ _ _ _ _ (h.2 q))
    · exact h.elim
  case ifnull off =>
    obtain ⟨rfl, hl⟩ := hl
    split at h
    · rw [decide_eq_true_eq] at hl
      replace h := pR_e h; obtain ⟨a, s, rfl, h⟩ := h
      exact am_ifnull hd (hl.2 ▸ hJ _ _ _ _ _ h)
    · exact h.elim
  case ifnonnull off =>
    obtain ⟨rfl, hl⟩ := hl
    split at h
    · rw [decide_eq_true_eq] at hl
      replace h := pR_e h; obtain ⟨a, s, rfl, h⟩ := h
      exact am_ifnonnull hd hl.1 (hJ _ _ _ _ _ h)
    · exact h.elim
  case tableswitch d lo hi offs =>
    split at h
    · rename_i t ts
      rw [decide_eq_true_eq] at hl
      obtain ⟨g1, g2, g3⟩ := hl
      replace h := pI_e h; obtain ⟨x, s, rfl, h1, h2⟩ := h
      refine am_tsw hd g1 g2 (fun j t ht => ?_) (fun q => hJ _ _ _ _ _ (h1 q)) (fun j t ht hx => hJ _ _ _ _ _ (am_sw_e ts lo h2 j t ht hx))
      have e1 : (offs.toList.map (fun o => (pc : Int) + o))[j]? = some (tp t : Int) := by rw [g3, List.getElem?_map, ht]; rfl
      rw [List.getElem?_map, Option.map_eq_some_iff] at e1
      obtain ⟨off, e2, e3⟩ := e1
      exact ⟨off, by rw [← Array.getElem?_toList]; exact e2, e3⟩
    · exact h.elim
  case ireturn =>
    obtain ⟨rfl, hl⟩ := hl
    replace h := pI_e h; obtain ⟨x, s, rfl, h0, h1, rfl, rfl, rfl⟩ := h
    subst h0
    exact am_ret (v := some (.inl x)) (Or.inl ⟨x, rfl, hd, hl.imp id fun q => ⟨q.1, h1 q.2⟩⟩)
  case lreturn =>
    obtain ⟨rfl, hl⟩ := hl
    replace h := pL_e h; obtain ⟨x, s, rfl, h0, rfl, rfl, rfl⟩ := h
    subst h0
    exact am_ret (v := some (.inr (.inl x))) (Or.inr (Or.inl ⟨x, rfl, hd, hl⟩))
  case return_ =>
    obtain ⟨rfl, hl⟩ := hl
    obtain ⟨h0, rfl, rfl, rfl⟩ := h
    subst h0
    exact am_ret (v := none) (Or.inr (Or.inr ⟨rfl, hd, hl⟩))
