section
/-! The check of a method's table against its code, and the rule for a stretch of it. -/
noncomputable def am_w (j : Nat) (w : Cond) : Bool := decide (am_tw j = some w) && goodWord w
theorem am_w_e {j : Nat} {w : Cond} (h : am_w j w = true) : w ∈ lw_g := by
  simp only [am_w, Bool.and_eq_true, decide_eq_true_eq] at h
  exact List.mem_filter.mpr ⟨am_tw_e h.1, h.2⟩
noncomputable def am_okb (k k2 n : Nat) : Bool := decide (k2 < am_kn) && decide (am_np k2 = n ∧ am_fr k2 + 1 ≤ am_fr k ∧ 8 + (am_ml k2 + 11) + am_lc k2 ≤ am_lc k)
theorem am_okb_e {k k2 n : Nat} (h : am_okb k k2 n = true) : am_okc k k2 n := by
  simp only [am_okb, Bool.and_eq_true, decide_eq_true_eq] at h
  obtain ⟨h0, h1, h2⟩ := h
  obtain ⟨h3, h4⟩ := am_np_e k2 h0
  have h5 := am_cs_ne _ h3
  rw [am_cn_e] at h5
  rw [h1] at h4
  exact ⟨am_kwA _ h0, h5.1, h5.2, h4, h2⟩
/-- what a method answers: 0 nothing, 1 an int, 2 a long -/
noncomputable def am_rk (k : Nat) : Nat := match am_rt k with
  | none => 0
  | some .long => 2
  | some _ => 1
noncomputable def am_lnk (k : Nat) (tp : Nat → Nat) (pc : Nat) (i : Instr) (len : Nat) (f ix : List Nat) : Bool :=
  match i with
  | .bipush n => decide (len = 2) && decide (-128 ≤ n ∧ n < 128)
  | .sipush n => decide (len = 3) && decide (-32768 ≤ n ∧ n < 32768)
  | .ldc j => decide (len = 2) && am_w (ix.getD 0 0) (.constant (am_y k).cls j (Int32.ofInt ((f.getD 0 0 : Nat) : Int)))
  | .ldc_w j => decide (len = 3) && am_w (ix.getD 0 0) (.constant (am_y k).cls j (Int32.ofInt ((f.getD 0 0 : Nat) : Int)))
  | .ldc2_w j => decide (len = 3) && (match f with
    | [n] => am_w (ix.getD 0 0) (.constantLong (am_y k).cls j (Int64.ofInt (n : Int)))
    | [n, _] => am_w (ix.getD 0 0) (.constantLong (am_y k).cls j (Int64.ofInt (-(n : Int))))
    | _ => false)
  | .iload _ => decide (len = 2)
  | .lload _ => decide (len = 2)
  | .aload _ => decide (len = 2)
  | .istore n => decide (len = 2) && decide (n < am_ml k)
  | .astore n => decide (len = 2) && decide (n < am_ml k)
  | .lstore n => decide (len = 2) && decide (n + 1 < am_ml k)
  | .istore_n n => decide (len = 1) && decide ((n : Nat) < am_ml k)
  | .astore_n n => decide (len = 1) && decide ((n : Nat) < am_ml k)
  | .lstore_n n => decide (len = 1) && decide ((n : Nat) + 1 < am_ml k)
  | .iinc n _ => decide (len = 3) && decide (n < am_ml k)
  | .getfield j => decide (len = 3) && (match f with
    | [ci, kk, fk] => (match vwCl[ci]? with
      | some q => decide (kk < q.2.2) && am_q (ix.getD 0 0) [4, am_cn k, j, ci, kk] && decide (am_fk ci kk = fk)
      | none => false)
    | _ => false)
  | .putfield j => decide (len = 3) && (match f with
    | [ci, kk, fk, _] => (match vwCl[ci]? with
      | some q => decide (kk < q.2.2) && am_q (ix.getD 0 0) [4, am_cn k, j, ci, kk] && decide (am_fk ci kk = fk) && decide ((q.2.1 kk).2.2.2 = false ∨ (q.2.1 kk).2.2.2 = true ∧ (am_y k).name = "<init>" ∧ (q.2.1 kk).1 = (am_y k).cls)
      | none => false)
    | _ => false)
  | .new j => decide (len = 3) && (match f with
    | [ci, n] => (match vwCl[ci]? with
      | some q => decide (q.2.2 = n) && am_w (ix.getD 0 0) (.classLink (am_y k).cls j q.1) && am_w (ix.getD 1 0) (.instantiable q.1 n) && am_w (ix.getD 2 0) (.initialized q.1)
      | none => false)
    | _ => false)
  | .newarray t => decide (len = 2) && (decide (t = .int ∧ f = [10]) || decide (t = .long ∧ f = [11]))
  | .anewarray j => decide (len = 3) && am_w (ix.getD 0 0) (.classLink (am_y k).cls j "PaceBorder$Days")
  | .invokevirtual j => decide (len = 3) && (match f with
    | [k2, n, ci, rk] => am_okb k k2 n && decide (am_rk k2 = rk) && decide (ci < 10) && decide (am_cn k2 = ci) && am_q (ix.getD 0 0) [7, am_cn k, j, k2] && am_q (ix.getD 1 0) [8, k2] && am_q (ix.getD 2 0) [9, k2] && am_q (ix.getD 3 0) [0, am_cn k2]
    | _ => false)
  | .invokestatic j => decide (len = 3) && (match f with
    | [k2, n, z, rk] => am_okb k k2 n && decide (am_rk k2 = rk) && am_q (ix.getD 1 0) [10, k2] && am_q (ix.getD 2 0) [0, am_cn k2] && (if z = 0 then am_q (ix.getD 0 0) [7, am_cn k, j, k2] else am_nst.any fun q => decide (q.1 = (am_y k).cls ∧ q.2.1 = j ∧ q.2.2.1 = am_y k2))
    | [_] => am_w (ix.getD 0 0) (.methodLink (am_y k).cls j arraycopyName) && am_w (ix.getD 1 0) (.native arraycopyName) && am_w (ix.getD 2 0) (.static arraycopyName) && am_w (ix.getD 3 0) (.initialized "java/lang/System") && decide (1 ≤ am_fr k ∧ 26 ≤ am_lc k)
    | [z, _] => am_w (ix.getD 2 0) (.initialized "java/lang/Math") && decide (1 ≤ am_fr k ∧ 26 ≤ am_lc k) && (if z = 2 then am_w (ix.getD 0 0) (.methodLink (am_y k).cls j Lib.Math.abs.name) && am_w (ix.getD 1 0) (.static Lib.Math.abs.name) && am_w (ix.getD 3 0) (.code Lib.Math.abs.name Lib.Math.abs.code 1 (some .int))
      else if z = 1 then am_w (ix.getD 0 0) (.methodLink (am_y k).cls j Lib.Math.min.name) && am_w (ix.getD 1 0) (.static Lib.Math.min.name) && am_w (ix.getD 3 0) (.code Lib.Math.min.name Lib.Math.min.code 2 (some .int))
      else am_w (ix.getD 0 0) (.methodLink (am_y k).cls j Lib.Math.max.name) && am_w (ix.getD 1 0) (.static Lib.Math.max.name) && am_w (ix.getD 3 0) (.code Lib.Math.max.name Lib.Math.max.code 2 (some .int)))
    | _ => false)
  | .invokespecial j => decide (len = 3) && (match f with
    | [k2, n] => am_okb k k2 n && decide ((am_y k2).name = "<init>" ∧ am_rt k2 = none) && am_q (ix.getD 0 0) [7, am_cn k, j, k2] && am_q (ix.getD 1 0) [8, k2] && am_q (ix.getD 2 0) [0, am_cn k2]
    | [_] => am_w (ix.getD 0 0) (.methodLink (am_y k).cls j Lib.objectInit) && am_w (ix.getD 1 0) (.instanceMethod Lib.objectInit) && am_w (ix.getD 2 0) (.code Lib.objectInit ⟨#[0xb1]⟩ 1 none) && decide (1 ≤ am_fr k ∧ 26 ≤ am_lc k)
    | _ => false)
  | .goto off => decide (len = 3) && (match f with
    | [t] => decide ((pc : Int) + off = tp t)
    | _ => false)
  | .ifCond _ off => decide (len = 3) && (match f with
    | [t, e] => decide ((pc : Int) + off = tp t ∧ tp e = pc + 3)
    | _ => false)
  | .if_icmp _ off => decide (len = 3) && (match f with
    | [t, e] => decide ((pc : Int) + off = tp t ∧ tp e = pc + 3)
    | _ => false)
  | .ifnull off => decide (len = 3) && (match f with
    | [t, e] => decide ((pc : Int) + off = tp t ∧ tp e = pc + 3)
    | _ => false)
  | .ifnonnull off => decide (len = 3) && (match f with
    | [t, e] => decide ((pc : Int) + off = tp t ∧ tp e = pc + 3)
    | _ => false)
  | .tableswitch d lo hi offs => (match f with
    | t :: ts => decide ((pc : Int) + d = tp t ∧ hi = lo + ts.length - 1 ∧ offs.toList.map (fun o => (pc : Int) + o) = ts.map (fun t => (tp t : Int)))
    | _ => false)
  | .ireturn => decide (len = 1) && decide (am_rt k = some .int ∨ am_rt k = some .boolean ∧ f = [1])
  | .lreturn => decide (len = 1) && decide (am_rt k = some .long)
  | .return_ => decide (len = 1) && decide (am_rt k = none)
  | _ => decide (len = 1)
set_option maxHeartbeats 4000000 in
theorem am_step {sc : Option (Nat × (Nat → Int))} {k pc : Nat} {tp : Nat → Nat} {i : Instr} {len : Nat} {f ix : List Nat} {lv : am_Lv} {st : List am_V} {sh : am_Sh} {M : am_M} {v : Option am_V} {sh' : am_Sh} {M' : am_M} {N : am_N} {J : Nat → am_N}
    (hd : decode (am_cc k) pc = .ok (i, len)) (hl : am_lnk k tp pc i len f ix = true) (hN : ∀ lv st sh M, N lv st sh M → am_At sc k (pc + len) lv st sh M v sh' M') (hJ : ∀ t lv st sh M, J t lv st sh M → am_At sc k (tp t) lv st sh M v sh' M')
    (h : am_stp sc (sh'.length, am_sl sh') i f lv st sh M N J (fun v1 s1 M1 => v1 = v ∧ s1 = sh' ∧ M1 = M')) : am_At sc k pc lv st sh M v sh' M' := by
  cases i <;> try exact False.elim h
  all_goals simp only [am_lnk, Bool.and_eq_true, decide_eq_true_eq] at hl
  all_goals simp only [am_stp] at h
  case iconst n => subst hl; exact am_iconst hd (hN _ _ _ _ h)
  case bipush n => obtain ⟨rfl, h1, h2⟩ := hl; exact am_bipush hd h1 h2 (hN _ _ _ _ h)
  case sipush n => obtain ⟨rfl, h1, h2⟩ := hl; exact am_sipush hd h1 h2 (hN _ _ _ _ h)
  case lconst n => subst hl; exact am_lconst hd (hN _ _ _ _ h)
  case ldc j => obtain ⟨rfl, h1⟩ := hl; exact am_ldc hd (am_w_e h1) (hN _ _ _ _ h)
  case ldc_w j => obtain ⟨rfl, h1⟩ := hl; exact am_ldcw hd (am_w_e h1) (hN _ _ _ _ h)
  case ldc2_w j =>
    obtain ⟨rfl, h1⟩ := hl
    split at h
    · exact am_ldc2 hd (am_w_e h1) (hN _ _ _ _ h)
    · exact am_ldc2 hd (am_w_e h1) (hN _ _ _ _ h)
    · exact h.elim
  case iload n => subst hl; obtain ⟨x, h1, h2⟩ := gI_e h; exact am_iload hd h1 (hN _ _ _ _ h2)
  case iload_n n => subst hl; obtain ⟨x, h1, h2⟩ := gI_e h; exact am_iload_n hd h1 (hN _ _ _ _ h2)
  case lload n => subst hl; obtain ⟨x, h1, h2⟩ := gL_e h; exact am_lload hd h1 (hN _ _ _ _ h2)
  case lload_n n => subst hl; obtain ⟨x, h1, h2⟩ := gL_e h; exact am_lload_n hd h1 (hN _ _ _ _ h2)
  case aload n => subst hl; obtain ⟨x, h1, h2⟩ := gX_e h; exact am_aload hd h1 (hN _ _ _ _ h2)
  case aload_n n => subst hl; obtain ⟨x, h1, h2⟩ := gX_e h; exact am_aload_n hd h1 (hN _ _ _ _ h2)
  case istore n => obtain ⟨rfl, h1⟩ := hl; replace h := pI_e h; obtain ⟨x, s, rfl, h2⟩ := h; exact am_istore hd h1 (hN _ _ _ _ h2)
  case istore_n n => obtain ⟨rfl, h1⟩ := hl; replace h := pI_e h; obtain ⟨x, s, rfl, h2⟩ := h; exact am_istore_n hd h1 (hN _ _ _ _ h2)
  case astore n => obtain ⟨rfl, h1⟩ := hl; replace h := pX_e h; obtain ⟨x, s, rfl, h2⟩ := h; exact am_astore hd h1 (hN _ _ _ _ h2)
  case astore_n n => obtain ⟨rfl, h1⟩ := hl; replace h := pX_e h; obtain ⟨x, s, rfl, h2⟩ := h; exact am_astore_n hd h1 (hN _ _ _ _ h2)
  case lstore n => obtain ⟨rfl, h1⟩ := hl; replace h := pL_e h; obtain ⟨x, s, rfl, h2⟩ := h; exact am_lstore hd h1 (hN _ _ _ _ h2)
  case lstore_n n => obtain ⟨rfl, h1⟩ := hl; replace h := pL_e h; obtain ⟨x, s, rfl, h2⟩ := h; exact am_lstore_n hd h1 (hN _ _ _ _ h2)
  case iinc n z => obtain ⟨rfl, h1⟩ := hl; obtain ⟨x, h3, h2⟩ := gI_e h; exact am_iinc hd h1 h3 (hN _ _ _ _ h2)
  case iadd => subst hl; replace h := pI_e h; obtain ⟨y, s, rfl, h⟩ := h; replace h := pI_e h; obtain ⟨x, s, rfl, h⟩ := h; exact am_iadd hd (hN _ _ _ _ h)
  case isub => subst hl; replace h := pI_e h; obtain ⟨y, s, rfl, h⟩ := h; replace h := pI_e h; obtain ⟨x, s, rfl, h⟩ := h; exact am_isub hd (hN _ _ _ _ h)
  case imul => subst hl; replace h := pI_e h; obtain ⟨y, s, rfl, h⟩ := h; replace h := pI_e h; obtain ⟨x, s, rfl, h⟩ := h; exact am_imul hd (hN _ _ _ _ h)
  case idiv => subst hl; replace h := pI_e h; obtain ⟨y, s, rfl, h⟩ := h; replace h := pI_e h; obtain ⟨x, s, rfl, h⟩ := h; exact am_idiv hd h.1 (hN _ _ _ _ h.2)
  case irem => subst hl; replace h := pI_e h; obtain ⟨y, s, rfl, h⟩ := h; replace h := pI_e h; obtain ⟨x, s, rfl, h⟩ := h; exact am_irem hd h.1 (hN _ _ _ _ h.2)
  case ineg => subst hl; replace h := pI_e h; obtain ⟨x, s, rfl, h⟩ := h; exact am_ineg hd (hN _ _ _ _ h)
  case iand => subst hl; replace h := pI_e h; obtain ⟨y, s, rfl, h⟩ := h; replace h := pI_e h; obtain ⟨x, s, rfl, h⟩ := h; exact am_iand hd (hN _ _ _ _ h)
  case ior => subst hl; replace h := pI_e h; obtain ⟨y, s, rfl, h⟩ := h; replace h := pI_e h; obtain ⟨x, s, rfl, h⟩ := h; exact am_ior hd (hN _ _ _ _ h)
  case ishl => subst hl; replace h := pI_e h; obtain ⟨y, s, rfl, h⟩ := h; replace h := pI_e h; obtain ⟨x, s, rfl, h⟩ := h; exact am_ishl hd (hN _ _ _ _ h)
  case ishr => subst hl; replace h := pI_e h; obtain ⟨y, s, rfl, h⟩ := h; replace h := pI_e h; obtain ⟨x, s, rfl, h⟩ := h; exact am_ishr hd (hN _ _ _ _ h)
  case ladd => subst hl; replace h := pL_e h; obtain ⟨y, s, rfl, h⟩ := h; replace h := pL_e h; obtain ⟨x, s, rfl, h⟩ := h; exact am_ladd hd (hN _ _ _ _ h)
  case lmul => subst hl; replace h := pL_e h; obtain ⟨y, s, rfl, h⟩ := h; replace h := pL_e h; obtain ⟨x, s, rfl, h⟩ := h; exact am_lmul hd (hN _ _ _ _ h)
  case ldiv => subst hl; replace h := pL_e h; obtain ⟨y, s, rfl, h⟩ := h; replace h := pL_e h; obtain ⟨x, s, rfl, h⟩ := h; exact am_ldiv hd h.1 (hN _ _ _ _ h.2)
  case lrem => subst hl; replace h := pL_e h; obtain ⟨y, s, rfl, h⟩ := h; replace h := pL_e h; obtain ⟨x, s, rfl, h⟩ := h; exact am_lrem hd h.1 (hN _ _ _ _ h.2)
  case lshl => subst hl; replace h := pI_e h; obtain ⟨y, s, rfl, h⟩ := h; replace h := pL_e h; obtain ⟨x, s, rfl, h⟩ := h; exact am_lshl hd (hN _ _ _ _ h)
  case lcmp => subst hl; replace h := pL_e h; obtain ⟨y, s, rfl, h⟩ := h; replace h := pL_e h; obtain ⟨x, s, rfl, h⟩ := h; exact am_lcmp hd (hN _ _ _ _ h)
  case i2l => subst hl; replace h := pI_e h; obtain ⟨x, s, rfl, h⟩ := h; exact am_i2l hd (hN _ _ _ _ h)
  case l2i => subst hl; replace h := pL_e h; obtain ⟨x, s, rfl, h⟩ := h; exact am_l2i hd (hN _ _ _ _ h)
  case i2b => subst hl; replace h := pI_e h; obtain ⟨x, s, rfl, h⟩ := h; exact am_i2b hd (hN _ _ _ _ h)
  case dup => subst hl; replace h := pV_e h; obtain ⟨x, s, rfl, h⟩ := h; exact am_dup hd h.1 (hN _ _ _ _ h.2)
  case pop => subst hl; replace h := pV_e h; obtain ⟨x, s, rfl, h⟩ := h; exact am_pop1 hd h.1 (hN _ _ _ _ h.2)
  case pop2 => subst hl; replace h := pV_e h; obtain ⟨x, s, rfl, h⟩ := h; exact am_popL hd h.1 (hN _ _ _ _ h.2)
  case dup2 => subst hl; replace h := pV_e h; obtain ⟨y, s, rfl, h⟩ := h; replace h := pV_e h; obtain ⟨x, s, rfl, h⟩ := h; exact am_dup2 hd h.1 h.2.1 (hN _ _ _ _ h.2.2)
  case getfield j =>
    obtain ⟨rfl, hl⟩ := hl
    split at h
    · rename_i ci kk fk
      replace h := pR_e h; obtain ⟨a, s, rfl, h⟩ := h
      replace h := pC_e h; obtain ⟨q, ha, h1, h2, h⟩ := h
      subst h1
      dsimp only at hl
      split at hl
      · rename_i cq hcq
        simp only [Bool.and_eq_true, decide_eq_true_eq] at hl
        obtain ⟨⟨g1, g2⟩, g3⟩ := hl
        obtain ⟨C, T, n⟩ := cq
        split at h
        · rename_i e2
          replace h := pF_e h; obtain ⟨r, hr, h⟩ := h
          exact am_getv hd hcq g1 (am_q4 hcq g2) ha h2 (fun base b => by simp only [am_fv, g3, e2, hr]; rfl) (hN _ _ _ _ h)
        · split at h
          · rename_i e1 e2
            exact am_getv hd hcq g1 (am_q4 hcq g2) ha h2 (fun base b => by simp only [am_fv, g3, e2]; rfl) (hN _ _ _ _ h)
          · rename_i e1 e2
            exact am_getv hd hcq g1 (am_q4 hcq g2) ha h2 (fun base b => by simp only [am_fv, g3, e1, e2, if_false]; rfl) (hN _ _ _ _ h)
      · cases hl
    · exact h.elim
  case putfield j =>
    obtain ⟨rfl, hl⟩ := hl
    split at h
    · rename_i ci kk fk fin
      dsimp only at hl
      split at hl
      · rename_i cq hcq
        simp only [Bool.and_eq_true, decide_eq_true_eq] at hl
        obtain ⟨⟨⟨g1, g2⟩, g3⟩, g4⟩ := hl
        obtain ⟨C, T, n⟩ := cq
        have hty := am_tyk_of hcq g1
        rw [g3] at hty
        dsimp only at hty
        split at h
        · rename_i e2
          replace h := pR_e h; obtain ⟨r, s, rfl, h⟩ := h
          replace h := pR_e h; obtain ⟨a, s, rfl, h⟩ := h
          replace h := pC_e h; obtain ⟨q, ha, h1, h2, h3, h⟩ := h
          subst h1
          refine am_putv (q2 := (q.1, q.2.1, q.2.2.set kk (some r))) hd hcq g1 (am_q4 hcq g2) ha h2 g4 (fun base b ty hp => ?_) (fun base ca b => am_cell_ref (am_vw hcq) (by rw [g3, e2]) h2 h3) (fun _ _ => rfl) rfl (hN _ _ _ _ h)
          obtain ⟨ty2, p1, p2⟩ := hty
          have := p1.symm.trans hp
          cases this
          rw [e2] at p2
          unfold am_tyk at p2
          split at p2 <;> first | (cases p2; done) | exact ⟨rfl, rfl⟩
        · split at h
          · rename_i e1 e2
            replace h := pL_e h; obtain ⟨x, s, rfl, h⟩ := h
            replace h := pR_e h; obtain ⟨a, s, rfl, h⟩ := h
            replace h := pC_e h; obtain ⟨q, ha, h1, h2, h⟩ := h
            subst h1
            rw [← am_setself ha] at h
            refine am_putv (q2 := q) hd hcq g1 (am_q4 hcq g2) ha h2 g4 (fun base b ty hp => ?_) (fun base ca b => am_cell_up (x := x) (am_vw hcq) (by rw [g3]; exact e1) h2 (by simp only [am_fv, g3, e2]; rfl)) (fun _ h' => am_up_ne h') rfl (hN _ _ _ _ h)
            obtain ⟨ty2, p1, p2⟩ := hty
            have := p1.symm.trans hp
            cases this
            rw [e2] at p2
            unfold am_tyk at p2
            split at p2 <;> first | (cases p2; done) | exact ⟨rfl, rfl⟩
          · split at h
            · rename_i e1 e2 e3
              replace h := pI_e h; obtain ⟨x, s, rfl, h⟩ := h
              replace h := pR_e h; obtain ⟨a, s, rfl, h⟩ := h
              replace h := pC_e h; obtain ⟨q, ha, h1, h2, hx, h⟩ := h
              subst h1
              rw [← am_setself ha] at h
              refine am_putv (q2 := q) hd hcq g1 (am_q4 hcq g2) ha h2 g4 (fun base b ty hp => ?_) (fun base ca b => am_cell_up (x := x) (am_vw hcq) (by rw [g3]; exact e1) h2 (by simp only [am_fv, g3, e3]; rfl)) (fun _ h' => am_up_ne h') rfl (hN _ _ _ _ h)
              obtain ⟨ty2, p1, p2⟩ := hty
              have := p1.symm.trans hp
              cases this
              rw [e3] at p2
              unfold am_tyk at p2
              split at p2 <;> first | (cases p2; done) | (rcases hx with rfl | rfl <;> exact ⟨rfl, rfl⟩)
            · rename_i e1 e2 e3
              replace h := pI_e h; obtain ⟨x, s, rfl, h⟩ := h
              replace h := pR_e h; obtain ⟨a, s, rfl, h⟩ := h
              replace h := pC_e h; obtain ⟨q, ha, h1, h2, h⟩ := h
              subst h1
              rw [← am_setself ha] at h
              refine am_putv (q2 := q) hd hcq g1 (am_q4 hcq g2) ha h2 g4 (fun base b ty hp => ?_) (fun base ca b => am_cell_up (x := x) (am_vw hcq) (by rw [g3]; exact e1) h2 (by simp only [am_fv, g3, e1, e2, if_false]; rfl)) (fun _ h' => am_up_ne h') rfl (hN _ _ _ _ h)
              obtain ⟨ty2, p1, p2⟩ := hty
              have := p1.symm.trans hp
              cases this
              unfold am_tyk at p2
              split at p2 <;> first | (rw [beq_iff_eq] at p2; omega) | (cases p2; done) | exact ⟨rfl, rfl⟩
      · cases hl
    · exact h.elim
  case iaload =>
    subst hl
    replace h := pI_e h; obtain ⟨j, s, rfl, h⟩ := h
    replace h := pX_e h; obtain ⟨a, s, rfl, h⟩ := h
    split at h
    · replace h := pC_e h; obtain ⟨q, ha, h1, h2, h⟩ := h
      obtain ⟨kd, n, rs⟩ := q
      dsimp only at h1
      subst h1
      exact am_iald hd ha h2 (hN _ _ _ _ h)
    · split at h
      · exact am_sld hd rfl h.1 (hN _ _ _ _ h.2)
      · exact h.elim
  case laload =>
    subst hl
    replace h := pI_e h; obtain ⟨j, s, rfl, h⟩ := h
    replace h := pR_e h; obtain ⟨a, s, rfl, h⟩ := h
    replace h := pC_e h; obtain ⟨q, ha, h1, h2, h⟩ := h
    obtain ⟨kd, n, rs⟩ := q
    dsimp only at h1
    subst h1
    exact am_lald hd ha h2 (hN _ _ _ _ h)
  case aaload =>
    subst hl
    replace h := pI_e h; obtain ⟨j, s, rfl, h⟩ := h
    replace h := pR_e h; obtain ⟨a, s, rfl, h⟩ := h
    replace h := pC_e h; obtain ⟨q, ha, h1, h2, h⟩ := h
    obtain ⟨kd, n, rs⟩ := q
    dsimp only at h1
    subst h1
    replace h := pF_e h; obtain ⟨r, hr, h⟩ := h
    exact am_aald hd ha h2 hr (hN _ _ _ _ h)
  case iastore =>
    subst hl
    replace h := pI_e h; obtain ⟨x, s, rfl, h⟩ := h
    replace h := pI_e h; obtain ⟨j, s, rfl, h⟩ := h
    replace h := pR_e h; obtain ⟨a, s, rfl, h⟩ := h
    replace h := pC_e h; obtain ⟨q, ha, h1, h2, h⟩ := h
    obtain ⟨kd, n, rs⟩ := q
    dsimp only at h1
    subst h1
    exact am_iast hd ha h2 (hN _ _ _ _ h)
  case lastore =>
    subst hl
    replace h := pL_e h; obtain ⟨x, s, rfl, h⟩ := h
    replace h := pI_e h; obtain ⟨j, s, rfl, h⟩ := h
    replace h := pR_e h; obtain ⟨a, s, rfl, h⟩ := h
    replace h := pC_e h; obtain ⟨q, ha, h1, h2, h⟩ := h
    obtain ⟨kd, n, rs⟩ := q
    dsimp only at h1
    subst h1
    exact am_last hd ha h2 (hN _ _ _ _ h)
  case aastore =>
    subst hl
    replace h := pR_e h; obtain ⟨r, s, rfl, h⟩ := h
    replace h := pI_e h; obtain ⟨j, s, rfl, h⟩ := h
    replace h := pR_e h; obtain ⟨a, s, rfl, h⟩ := h
    replace h := pC_e h; obtain ⟨q, ha, h1, h2, h3, h4, h⟩ := h
    obtain ⟨qv, hv, h5⟩ := pC_e h4
    obtain ⟨kd, n, rs⟩ := q
    dsimp only at h1
    subst h1
    exact am_aast hd ha h2 h3 hv h5 (hN _ _ _ _ h)
  case arraylength =>
    subst hl
    replace h := pX_e h; obtain ⟨a, s, rfl, h⟩ := h
    split at h
    · replace h := pC_e h; obtain ⟨q, ha, h⟩ := h
      rcases h with ⟨h1, h⟩ | ⟨h1, h⟩
      · exact am_alen (n := 0) hd ha (Or.inl h1) (hN _ _ _ _ h)
      · exact am_alen (n := 0) hd ha (Or.inr h1) (hN _ _ _ _ h)
    · split at h
      · exact am_slen hd rfl (hN _ _ _ _ h)
      · exact h.elim
  case new j =>
    obtain ⟨rfl, hl⟩ := hl
    split at h
    · dsimp only at hl
      split at hl
      · rename_i cq hcq
        simp only [Bool.and_eq_true, decide_eq_true_eq] at hl
        obtain ⟨⟨⟨g1, g2⟩, g3⟩, g4⟩ := hl
        obtain ⟨C, T, n⟩ := cq
        dsimp only at g1
        subst g1
        exact am_new hd hcq (am_w_e g2) (am_w_e g3) (am_w_e g4) ⟨h.2.1, h.2.2.1⟩ (hN _ _ _ _ h.2.2.2)
      · cases hl
    · exact h.elim
  case newarray t =>
    obtain ⟨rfl, hl⟩ := hl
    simp only [Bool.or_eq_true, decide_eq_true_eq] at hl
    rcases hl with ⟨rfl, rfl⟩ | ⟨rfl, rfl⟩
    · replace h := pI_e h; obtain ⟨n, s, rfl, h⟩ := h
      exact am_newai hd am_ac_int h.1 h.2.1 ⟨h.2.2.1, h.2.2.2.1⟩ (hN _ _ _ _ h.2.2.2.2)
    · replace h := pI_e h; obtain ⟨n, s, rfl, h⟩ := h
      exact am_newal hd am_ac_long h.1 h.2.1 ⟨h.2.2.1, h.2.2.2.1⟩ (hN _ _ _ _ h.2.2.2.2)
  case anewarray j =>
    obtain ⟨rfl, hl⟩ := hl
    replace h := pI_e h; obtain ⟨n, s, rfl, h⟩ := h
    exact am_newq hd (am_w_e hl) h.1 h.2.1 ⟨h.2.2.1, h.2.2.2.1⟩ (hN _ _ _ _ h.2.2.2.2)
  case invokevirtual j =>
    obtain ⟨rfl, hl⟩ := hl
    split at h
    · replace h := pA_e h; obtain ⟨as, r, hn, rfl, h⟩ := h
      replace h := pR_e h; obtain ⟨a, r, rfl, h⟩ := h
      replace h := pC_e h; obtain ⟨q, ha, h1, h2, w, M1, hM, h⟩ := h
      simp only [Bool.and_eq_true, decide_eq_true_eq] at hl
      obtain ⟨⟨⟨⟨⟨⟨⟨g1, -⟩, g2⟩, g3⟩, g4⟩, g5⟩, g6⟩, g7⟩ := hl
      exact am_callV hd (am_okb_e g1) (by rw [← am_cs_vw _ g2, ← g3, am_cn_e]) g2 (am_q7 g4) (am_q8 g5) (am_q9 g6) (am_q0 g7) hn ha h1 h2 hM (hN _ _ _ _ h)
    · exact h.elim
  case invokestatic j =>
    obtain ⟨rfl, hl⟩ := hl
    split at h
    · replace h := pA_e h; obtain ⟨as, r, hn, rfl, h2, w, M1, hM, h⟩ := h
      simp only [Bool.and_eq_true] at hl
      obtain ⟨⟨⟨⟨g1, -⟩, g2⟩, g3⟩, g4⟩ := hl
      split at g4
      · exact am_callS hd (am_okb_e g1) (am_q7 g4) (am_q10 g2) (am_q0 g3) hn h2 hM (hN _ _ _ _ h)
      · obtain ⟨q, hq, hq2⟩ := List.any_eq_true.mp g4
        rw [decide_eq_true_eq] at hq2
        obtain ⟨x1, x2, x3, x4⟩ := q
        obtain ⟨e1, e2, e3⟩ := hq2
        dsimp only at e1 e2 e3
        subst e1; subst e2; subst e3
        exact am_callN hd (am_okb_e g1) hq (am_q10 g2) (am_q0 g3) hn h2 hM (hN _ _ _ _ h)
    · replace h := pI_e h; obtain ⟨n, s, rfl, h⟩ := h
      replace h := pI_e h; obtain ⟨dp, s, rfl, h⟩ := h
      replace h := pR_e h; obtain ⟨d, s, rfl, h⟩ := h
      replace h := pI_e h; obtain ⟨sp, s, rfl, h⟩ := h
      replace h := pR_e h; obtain ⟨s0, s, rfl, h⟩ := h
      replace h := pC_e h; obtain ⟨q0, h0, h⟩ := h
      replace h := pC_e h; obtain ⟨q1, h1, h⟩ := h
      simp only [Bool.and_eq_true, decide_eq_true_eq] at hl
      obtain ⟨⟨⟨⟨g1, g2⟩, g3⟩, g4⟩, g5, g6⟩ := hl
      exact am_copy hd (am_w_e g1) (am_w_e g2) (am_w_e g3) (am_w_e g4) g5 g6 h0 h1 h.1 h.2.1 h.2.2.1 (hN _ _ _ _ h.2.2.2)
    · simp only [Bool.and_eq_true, decide_eq_true_eq] at hl
      obtain ⟨⟨g1, g2, g3⟩, g4⟩ := hl
      split at h
      · rename_i e1
        rw [if_pos e1] at g4
        simp only [Bool.and_eq_true] at g4
        obtain ⟨⟨g5, g6⟩, g7⟩ := g4
        replace h := pI_e h; obtain ⟨x, s, rfl, h⟩ := h
        exact am_mabs hd (am_w_e g5) (am_w_e g6) (am_w_e g1) (am_w_e g7) g2 g3 h.1 (hN _ _ _ _ h.2)
      · rename_i e1
        rw [if_neg e1] at g4
        split at h
        · rename_i e2
          rw [if_pos e2] at g4
          simp only [Bool.and_eq_true] at g4
          obtain ⟨⟨g5, g6⟩, g7⟩ := g4
          replace h := pI_e h; obtain ⟨y, s, rfl, h⟩ := h
          replace h := pI_e h; obtain ⟨x, s, rfl, h⟩ := h
          exact am_mmin hd (am_w_e g5) (am_w_e g6) (am_w_e g1) (am_w_e g7) g2 g3 h.1 (hN _ _ _ _ h.2)
        · rename_i e2
          rw [if_neg e2] at g4
          simp only [Bool.and_eq_true] at g4
          obtain ⟨⟨g5, g6⟩, g7⟩ := g4
          replace h := pI_e h; obtain ⟨y, s, rfl, h⟩ := h
          replace h := pI_e h; obtain ⟨x, s, rfl, h⟩ := h
          exact am_mmax hd (am_w_e g5) (am_w_e g6) (am_w_e g1) (am_w_e g7) g2 g3 h.1 (hN _ _ _ _ h.2)
    · exact h.elim
  case invokespecial j =>
    obtain ⟨rfl, hl⟩ := hl
    split at h
    · replace h := pA_e h; obtain ⟨as, r, hn, rfl, h⟩ := h
      replace h := pR_e h; obtain ⟨a, r, rfl, h2, sh1, M1, hM, hg, h⟩ := h
      simp only [Bool.and_eq_true, decide_eq_true_eq] at hl
      obtain ⟨⟨⟨⟨g1, g2, g3⟩, g4⟩, g5⟩, g6⟩ := hl
      exact am_callI hd (am_okb_e g1) g2 g3 (am_q7 g4) (am_q8 g5) (am_q0 g6) hn h2 hM hg (hN _ _ _ _ h)
    · replace h := pR_e h; obtain ⟨a, r, rfl, h2, h⟩ := h
      simp only [Bool.and_eq_true, decide_eq_true_eq] at hl
      obtain ⟨⟨⟨g1, g2⟩, g3⟩, g4, g5⟩ := hl
      exact am_objI hd (am_w_e g1) (am_w_e g2) (am_w_e g3) g4 g5 h2 (hN _ _ _ _ h)
    · exact h.elim
  case goto off =>
    obtain ⟨rfl, hl⟩ := hl
    split at h
    · rw [decide_eq_true_eq] at hl
      exact am_goto hd hl (hJ _ _ _ _ _ h)
    · exact h.elim
  case ifCond cd off =>
    obtain ⟨rfl, hl⟩ := hl
    split at h
    · rw [decide_eq_true_eq] at hl
      replace h := pI_e h; obtain ⟨x, s, rfl, h⟩ := h
      exact am_if hd hl.1 (fun q => hJ _ _ _ _ _ (h.1 q)) (fun q => hl.2 ▸ hJ _ _ _ _ _ (h.2 q))
    · exact h.elim
  case if_icmp cd off =>
    obtain ⟨rfl, hl⟩ := hl
    split at h
    · rw [decide_eq_true_eq] at hl
      replace h := pI_e h; obtain ⟨y, s, rfl, h⟩ := h
      replace h := pI_e h; obtain ⟨x, s, rfl, h⟩ := h
      exact am_icmp hd hl.1 (fun q => hJ _ _ _ _ _ (h.1 q)) (fun q => hl.2 ▸ hJ _ _ _ _ _ (h.2 q))
    · exact h.elim
  case ifnull off =>
    obtain ⟨rfl, hl⟩ := hl
    split at h
    · rw [decide_eq_true_eq] at hl
      replace h := pR_e h; obtain ⟨a, s, rfl, h⟩ := h
      exact am_ifnull hd (hl.2 ▸ hJ _ _ _ _ _ h)
    · exact h.elim
  case ifnonnull off =>
    obtain ⟨rfl, hl⟩ := hl
    split at h
    · rw [decide_eq_true_eq] at hl
      replace h := pR_e h; obtain ⟨a, s, rfl, h⟩ := h
      exact am_ifnonnull hd hl.1 (hJ _ _ _ _ _ h)
    · exact h.elim
  case tableswitch d lo hi offs =>
    split at h
    · rename_i t ts
      rw [decide_eq_true_eq] at hl
      obtain ⟨g1, g2, g3⟩ := hl
      replace h := pI_e h; obtain ⟨x, s, rfl, h1, h2⟩ := h
      refine am_tsw hd g1 g2 (fun j t ht => ?_) (fun q => hJ _ _ _ _ _ (h1 q)) (fun j t ht hx => hJ _ _ _ _ _ (am_sw_e ts lo h2 j t ht hx))
      have e1 : (offs.toList.map (fun o => (pc : Int) + o))[j]? = some (tp t : Int) := by rw [g3, List.getElem?_map, ht]; rfl
      rw [List.getElem?_map, Option.map_eq_some_iff] at e1
      obtain ⟨off, e2, e3⟩ := e1
      exact ⟨off, by rw [← Array.getElem?_toList]; exact e2, e3⟩
    · exact h.elim
  case ireturn =>
    obtain ⟨rfl, hl⟩ := hl
    replace h := pI_e h; obtain ⟨x, s, rfl, h0, h1, rfl, rfl, rfl⟩ := h
    subst h0
    exact am_ret (v := some (.inl x)) (Or.inl ⟨x, rfl, hd, hl.imp id fun q => ⟨q.1, h1 q.2⟩⟩)
  case lreturn =>
    obtain ⟨rfl, hl⟩ := hl
    replace h := pL_e h; obtain ⟨x, s, rfl, h0, rfl, rfl, rfl⟩ := h
    subst h0
    exact am_ret (v := some (.inr (.inl x))) (Or.inr (Or.inl ⟨x, rfl, hd, hl⟩))
  case return_ =>
    obtain ⟨rfl, hl⟩ := hl
    obtain ⟨h0, rfl, rfl, rfl⟩ := h
    subst h0
    exact am_ret (v := none) (Or.inr (Or.inr ⟨rfl, hd, hl⟩))
end
section
/-! Blocks, stretches of blocks between cuts, a method's entry. -/
noncomputable abbrev am_E : Type := Instr × List Nat
noncomputable abbrev am_B : Type := Nat × List am_E × Option Nat
noncomputable def am_blk (sc : Option (Nat × (Nat → Int))) (fin : Nat × Nat) (J : Nat → am_N) (Rt : Option am_V → am_Sh → am_M → Prop) (fall : Option Nat) : List am_E → am_N
  | [], lv, st, sh, M => (match fall with
    | some t => J t lv st sh M
    | none => False)
  | e :: es, lv, st, sh, M => am_stp sc fin e.1 e.2 lv st sh M (am_blk sc fin J Rt fall es) J Rt
noncomputable def am_pc (bs : List am_B) (b : Nat) : Nat := (bs.getD b (0, [], none)).1
noncomputable def am_tp (bs : List am_B) (t : Nat) : Nat := am_pc bs (if 1000 ≤ t then t - 1000 else t)
noncomputable def am_ckB (k : Nat) (tp : Nat → Nat) : Nat → List am_E → List (Nat × List Nat) → Option Nat → Bool
  | pc, [], [], some t => decide (tp t = pc)
  | _, [], [], none => true
  | pc, e :: es, c :: cs, fall => decide (decode (am_cc k) pc = .ok (e.1, c.1)) && am_lnk k tp pc e.1 c.1 e.2 c.2 && am_ckB k tp (pc + c.1) es cs fall
  | _, _, _, _ => false
noncomputable def am_ckL (k : Nat) (tp : Nat → Nat) : List am_B → List (List (Nat × List Nat)) → Bool
  | [], [] => true
  | b :: bs, c :: cs => am_ckB k tp b.1 b.2.1 c b.2.2 && am_ckL k tp bs cs
  | _, _ => false
noncomputable def am_ck (k : Nat) (bs : List am_B) (cs : List (List (Nat × List Nat))) : Bool := am_ckL k (am_tp bs) bs cs
theorem am_ckL_e {k : Nat} {tp : Nat → Nat} : ∀ (bs : List am_B) (cs : List (List (Nat × List Nat))), am_ckL k tp bs cs = true → ∀ (b : Nat) (q : am_B), bs[b]? = some q → ∃ c, am_ckB k tp q.1 q.2.1 c q.2.2 = true
  | [], [], _, b, q, h => by simp at h
  | b1 :: bs, c1 :: cs, h, 0, q, hq => by
    simp only [am_ckL, Bool.and_eq_true] at h
    simp at hq; subst hq
    exact ⟨c1, h.1⟩
  | b1 :: bs, c1 :: cs, h, b + 1, q, hq => by
    simp only [am_ckL, Bool.and_eq_true] at h
    exact am_ckL_e bs cs h.2 b q (by simpa using hq)
  | [], _ :: _, h, _, _, _ => by simp [am_ckL] at h
  | _ :: _, [], h, _, _, _ => by simp [am_ckL] at h
theorem am_blk_e {sc : Option (Nat × (Nat → Int))} {k : Nat} {tp : Nat → Nat} {v : Option am_V} {sh' : am_Sh} {M' : am_M} {J : Nat → am_N} {fall : Option Nat} (hJ : ∀ t lv st sh M, J t lv st sh M → am_At sc k (tp t) lv st sh M v sh' M') :
    ∀ (es : List am_E) (cs : List (Nat × List Nat)) (pc : Nat) (lv : am_Lv) (st : List am_V) (sh : am_Sh) (M : am_M), am_ckB k tp pc es cs fall = true → am_blk sc (sh'.length, am_sl sh') J (fun v1 s1 M1 => v1 = v ∧ s1 = sh' ∧ M1 = M') fall es lv st sh M → am_At sc k pc lv st sh M v sh' M'
  | [], [], pc, lv, st, sh, M, hc, h => by
    cases fall with
    | none => exact h.elim
    | some t =>
      simp only [am_ckB, decide_eq_true_eq] at hc
      rw [← hc]
      exact hJ t lv st sh M h
  | e :: es, c :: cs, pc, lv, st, sh, M, hc, h => by
    simp only [am_ckB, Bool.and_eq_true, decide_eq_true_eq] at hc
    exact am_step hc.1.1 hc.1.2 (fun lv st sh M hn => am_blk_e hJ es cs (pc + c.1) lv st sh M hc.2 hn) hJ h
  | [], _ :: _, pc, lv, st, sh, M, hc, h => by cases fall <;> simp [am_ckB] at hc
  | _ :: _, [], pc, lv, st, sh, M, hc, h => by cases fall <;> simp [am_ckB] at hc
noncomputable def am_run (sc : Option (Nat × (Nat → Int))) (fin : Nat × Nat) (bs : List am_B) (C : Nat → am_N) (Rt : Option am_V → am_Sh → am_M → Prop) : Nat → Nat → am_N
  | 0, _, _, _, _, _ => False
  | n + 1, b, lv, st, sh, M => (match bs[b]? with
    | none => False
    | some q => am_blk sc fin (fun t => if 1000 ≤ t then C (t - 1000) else am_run sc fin bs C Rt n t) Rt q.2.2 q.2.1 lv st sh M)
/-- from block b of method k with these locals, this stack, this world: it ends with that answer and that world -/
noncomputable def am_R (sc : Option (Nat × (Nat → Int))) (k : Nat) (bs : List am_B) (b : Nat) (lv : am_Lv) (st : List am_V) (sh : am_Sh) (M : am_M) (v : Option am_V) (sh' : am_Sh) (M' : am_M) : Prop := am_At sc k (am_pc bs b) lv st sh M v sh' M'
theorem am_region {sc : Option (Nat × (Nat → Int))} {k : Nat} {bs : List am_B} {cs : List (List (Nat × List Nat))} (hck : am_ck k bs cs = true) {v : Option am_V} {sh' : am_Sh} {M' : am_M} :
    ∀ (n b : Nat) (lv : am_Lv) (st : List am_V) (sh : am_Sh) (M : am_M), am_run sc (sh'.length, am_sl sh') bs (fun t lv st sh M => am_R sc k bs t lv st sh M v sh' M') (fun v1 s1 M1 => v1 = v ∧ s1 = sh' ∧ M1 = M') n b lv st sh M → am_R sc k bs b lv st sh M v sh' M'
  | 0, b, lv, st, sh, M, h => h.elim
  | n + 1, b, lv, st, sh, M, h => by
    unfold am_run at h
    split at h
    · exact h.elim
    · rename_i q hq
      obtain ⟨c, hc⟩ := am_ckL_e bs cs hck b q hq
      have e1 : am_pc bs b = q.1 := by simp [am_pc, List.getD_eq_getElem?_getD, hq]
      unfold am_R
      rw [e1]
      refine am_blk_e (fun t lv st sh M hj => ?_) _ c _ lv st sh M hc h
      unfold am_tp
      split at hj
      · rename_i ht
        rw [if_pos ht]; exact hj
      · rename_i ht
        rw [if_neg ht]; exact am_region hck n t lv st sh M hj
noncomputable def am_argl : List am_V → am_Lv
  | [] => []
  | .inr (.inl x) :: s => some (.inr (.inl x)) :: none :: am_argl s
  | .inl x :: s => some (.inl x) :: am_argl s
  | .inr (.inr x) :: s => some (.inr (.inr x)) :: am_argl s
theorem am_argl_sl (base b : Nat) : ∀ as : List am_V, (lg_sl (as.map (am_cv base b))).length = (am_argl as).length
  | [] => rfl
  | .inl x :: s => by
    have := am_argl_sl base b s
    simp only [lg_sl, List.map_cons, List.flatMap_cons, List.length_append, am_argl, List.length_cons] at this ⊢
    rw [this, if_neg (by simp [am_cv, Value.category])]; simp; omega
  | .inr (.inl x) :: s => by
    have := am_argl_sl base b s
    simp only [lg_sl, List.map_cons, List.flatMap_cons, List.length_append, am_argl, List.length_cons] at this ⊢
    rw [this, if_pos (by simp [am_cv, Value.category])]; simp; omega
  | .inr (.inr x) :: s => by
    have := am_argl_sl base b s
    simp only [lg_sl, List.map_cons, List.flatMap_cons, List.length_append, am_argl, List.length_cons] at this ⊢
    rw [this, if_neg (by cases x <;> simp [am_cv, Value.category])]; simp; omega
theorem am_argl_mem (base b : Nat) : ∀ (as : List am_V) (o i : Nat) (v : am_V), (am_argl as)[i]? = some (some v) → (o + i, am_cv base b v) ∈ lv_args o (as.map (am_cv base b))
  | [], o, i, v, h => by simp [am_argl] at h
  | .inl x :: s, o, 0, v, h => by simp [am_argl] at h; subst h; simp [lv_args]
  | .inl x :: s, o, i + 1, v, h => by
    have := am_argl_mem base b s (o + 1) i v (by simpa [am_argl] using h)
    simp only [List.map_cons, lv_args]
    rw [if_neg (by simp [am_cv, Value.category])]
    rw [show o + (i + 1) = o + 1 + i by omega]
    exact List.mem_cons_of_mem _ this
  | .inr (.inr x) :: s, o, 0, v, h => by simp [am_argl] at h; subst h; simp [lv_args]
  | .inr (.inr x) :: s, o, i + 1, v, h => by
    have := am_argl_mem base b s (o + 1) i v (by simpa [am_argl] using h)
    simp only [List.map_cons, lv_args]
    rw [if_neg (by cases x <;> simp [am_cv, Value.category])]
    rw [show o + (i + 1) = o + 1 + i by omega]
    exact List.mem_cons_of_mem _ this
  | .inr (.inl x) :: s, o, 0, v, h => by simp [am_argl] at h; subst h; simp [lv_args]
  | .inr (.inl x) :: s, o, 1, v, h => by simp [am_argl] at h
  | .inr (.inl x) :: s, o, i + 2, v, h => by
    have := am_argl_mem base b s (o + 2) i v (by simpa [am_argl] using h)
    simp only [List.map_cons, lv_args]
    rw [if_pos (by simp [am_cv, Value.category])]
    rw [show o + (i + 2) = o + 2 + i by omega]
    exact List.mem_cons_of_mem _ this
noncomputable def am_ent (n : Nat) (as : List am_V) : am_Lv := am_argl as ++ List.replicate (n - (am_argl as).length) none
theorem am_enter {k n : Nat} {bs : List am_B} {as : List am_V} {sh sh' : am_Sh} {M M' : am_M} {v : Option am_V} (hp : plainName (am_y k).cls = true) (hn : am_ml k = n) (hb : am_pc bs 0 = 0) (hl : (am_argl as).length ≤ n) (hg : sh.length ≤ sh'.length ∧ am_sl sh ≤ am_sl sh')
    (h : am_R none k bs 0 (am_ent n as) [] sh M v sh' M') : am_Calls k as sh M v sh' M' := by
  intro l D ca base b
  subst hn
  refine Met.ofW (cc := am_cc k) (maxL := am_ml k) (ret := am_rt k) hp rfl ?_
  intro p e s m args below meth c s₁ B hml hv
  obtain ⟨rfl, hsz, hP, hK⟩ := hv
  have hts := atoms_spec (ws := am_tb k) B.pre
  have hent : (lg_sl (as.map (am_cv base b))).length ≤ am_ml k := by rw [am_argl_sl]; exact hl
  have hlv := lv_entry (as.map (am_cv base b)) (n := am_ml k) hent
  rw [lg_entry_eq]
  have hlen : (am_ent (am_ml k) as).length = am_ml k := by simp [am_ent]; omega
  have hlv2 : lv_has _ (am_ml k) (am_lvl base b (am_ent (am_ml k) as)) := lv_has_sub hlv (fun q hq => by
    obtain ⟨w, hw, e⟩ := am_lvl_mem.mp hq
    obtain ⟨i, z⟩ := q
    dsimp only at hw e
    subst e
    unfold am_ent at hw
    rw [List.getElem?_append] at hw
    split at hw
    · have := am_argl_mem base b as 0 i w hw
      rw [Nat.zero_add] at this
      exact this
    · rw [List.getElem?_replicate] at hw
      split at hw <;> cases hw)
  have h2 := h
  unfold am_R at h2
  rw [hb] at h2
  have e1 : sh.length - sh.length = 0 := Nat.sub_self _
  have e2 : am_sl sh - am_sl sh = 0 := Nat.sub_self _
  have h3 := h2 (p := p) (l := l) (e := e) (R := (headSpec (am_tb k) (am_rm k sh sh')).room) (s := s) (m := m) (args := (as.map (am_cv base b)).toArray) (below := below) (meth := meth) (c := c) (D := D) (ca := ca) (base := base) (b := b) (n0 := sh.length) (sl0 := am_sl sh) (H := s.heap) (locs := [])
    (Q := MQ below (fun _ st o t => o = .returned (v.map (am_cv base b)) ∧ (t.heap.size = base + sh'.length ∧ va_P D vwCl (am_ws base ca sh' M') t.heap) ∧ va_F (fun q => base ≤ q) st t) (as.map (am_cv base b)).toArray s (sh'.length - sh.length) (am_sl sh' - am_sl sh) (fun q => base ≤ q))
    ⟨B.exec, B.bytes, B.returns, hml, findClass_of_methodNamed B.named, fun w hw => hts w (List.mem_cons_of_mem _ hw), B.notSynchronized, (name_of_methodNamed B.named B.method).1, Nat.le_refl _, Nat.le_refl _, hK, hsz, by show sh'.length ≤ sh.length + (sh'.length - sh.length); omega, by show am_sl sh' ≤ am_sl sh + (am_sl sh' - am_sl sh); omega, fun _ h => by cases h⟩
    ⟨hlv2, hlen, hsz, hP, va_S.rf, Nat.le_refl _, Nat.le_refl _, hg.1, hg.2⟩ ?_
  · rw [e1, e2] at h3
    exact h3
  · intro pc H locs ls lv hr hS
    have hq : ∀ t : State, t.heap = H → (t.heap.size = base + sh'.length ∧ va_P D vwCl (am_ws base ca sh' M') t.heap) ∧ va_F (fun q => base ≤ q) s t := fun t ht => ⟨⟨by rw [ht]; exact hS.2.2.1, by rw [ht]; exact hS.2.2.2.1⟩, hS.2.2.2.2.1.F ht⟩
    have hlocks := B.notSynchronized
    rcases hr with ⟨x, rfl, hd, hrt⟩ | ⟨x, rfl, hd, hrt⟩ | ⟨rfl, hd, hrt⟩
    · rcases hrt with hrt | ⟨hrt, hx⟩
      · exact W.iret B.exec B.bytes (B.returns.trans hrt) (fun t ht _ => ⟨rfl, hq t ht⟩) (fun q hq => hS.2.2.2.2.1.2.2 q hq) hd hlocks
      · exact W.zret B.exec B.bytes (B.returns.trans hrt) (by rcases hx with rfl | rfl <;> rfl) (fun t ht _ => ⟨rfl, hq t ht⟩) (fun q hq => hS.2.2.2.2.1.2.2 q hq) hd hlocks
    · exact W.lret B.exec B.bytes (B.returns.trans hrt) (fun t ht _ => ⟨rfl, hq t ht⟩) (fun q hq => hS.2.2.2.2.1.2.2 q hq) hd hlocks
    · exact W.vret B.exec B.bytes (B.returns.trans hrt) (fun t ht _ => ⟨rfl, hq t ht⟩) (fun q hq => hS.2.2.2.2.1.2.2 q hq) hd hlocks
end
section
/-! A quicker check of a table: the code's bytes are gone along once. -/
noncomputable abbrev am_Dc : Type → Type := Jvm.ClassFile.Decoder
noncomputable def am_by (c : ByteArray) (p : Nat) : List UInt8 := c.data.toList.drop p
theorem am_by_s (c : ByteArray) (p n : Nat) : am_by c (p + n) = (am_by c p).drop n := by
  unfold am_by
  first | rw [List.drop_drop] | rw [List.drop_drop, Nat.add_comm]
theorem am_by_c {c : ByteArray} {p : Nat} {b : UInt8} {r : List UInt8} (h : am_by c p = b :: r) : am_by c (p + 1) = r := by
  rw [am_by_s, h]; rfl
theorem am_u1 {c : ByteArray} {p : Nat} {b : UInt8} {r : List UInt8} (h : am_by c p = b :: r) : (Jvm.ClassFile.Reader.u1 : am_Dc Nat) c p = .ok (b.toNat, p + 1) := by
  have h0 : c.data.toList[p]? = some b := by
    have := congrArg List.head? h
    unfold am_by at this
    rw [List.head?_drop] at this
    exact this
  have h2 : c.data[p]? = some b := by rw [← Array.getElem?_toList]; exact h0
  obtain ⟨h3, h4⟩ := Array.getElem?_eq_some_iff.mp h2
  have hp : p < c.size := h3
  have hb : c[p]'hp = b := h4
  show (dite (p < c.size) (fun h => (do set (p + 1); pure (c[p]'h).toNat : am_Dc Nat)) (fun _ => throw (Jvm.ClassFile.HasTruncated.truncated p))) c p = _
  rw [dif_pos hp]
  show Except.ok ((c[p]'hp).toNat, p + 1) = _
  rw [hb]
theorem am_bd {α β : Type} {r : am_Dc α} {G : α → am_Dc β} {c : ByteArray} {p q : Nat} {a : α} (h : r c p = .ok (a, q)) : (r >>= G) c p = G a c q := by
  show Except.bind (r c p) (fun x => match x with | (a, s) => G a c s) = _
  rw [h]; rfl
theorem am_dc {c : ByteArray} {p l : Nat} {i : Instr} (h : (Jvm.ClassFile.Decoder.instr p) c p = .ok (i, p + l)) : decode c p = .ok (i, l) := by
  have e : (Jvm.ClassFile.Decoder.instr p).runAt c p = .ok (i, p + l) := h
  unfold decode
  rw [e]
  show Except.ok (i, p + l - p) = _
  rw [Nat.add_sub_cancel_left]
theorem am_u2 {c : ByteArray} {p : Nat} {b d : UInt8} {r : List UInt8} (h : am_by c p = b :: d :: r) : (Jvm.ClassFile.Reader.u2 : am_Dc Nat) c p = .ok (b.toNat * 256 + d.toNat, p + 2) :=
  (am_bd (am_u1 h)).trans (am_bd (am_u1 (am_by_c h)))
theorem am_s1 {c : ByteArray} {p : Nat} {b : UInt8} {r : List UInt8} (h : am_by c p = b :: r) : (Jvm.ClassFile.Reader.s1 : am_Dc Int) c p = .ok (Jvm.ClassFile.Reader.signed 8 b.toNat, p + 1) := by
  show Except.map (fun x => (Jvm.ClassFile.Reader.signed 8 x.1, x.2)) ((Jvm.ClassFile.Reader.u1 : am_Dc Nat) c p) = _
  rw [am_u1 h]; rfl
theorem am_s2 {c : ByteArray} {p : Nat} {b d : UInt8} {r : List UInt8} (h : am_by c p = b :: d :: r) : (Jvm.ClassFile.Reader.s2 : am_Dc Int) c p = .ok (Jvm.ClassFile.Reader.signed 16 (b.toNat * 256 + d.toNat), p + 2) := by
  show Except.map (fun x => (Jvm.ClassFile.Reader.signed 16 x.1, x.2)) ((Jvm.ClassFile.Reader.u2 : am_Dc Nat) c p) = _
  rw [am_u2 h]; rfl
noncomputable def am_f0 (n len : Nat) : List UInt8 → Bool
  | b :: _ => decide (b.toNat = n) && decide (len = 1)
  | _ => false
noncomputable def am_f1 (n v len : Nat) : List UInt8 → Bool
  | b :: d :: _ => decide (b.toNat = n) && decide (d.toNat = v) && decide (len = 2)
  | _ => false
noncomputable def am_f2 (n v len : Nat) : List UInt8 → Bool
  | b :: d :: e :: _ => decide (b.toNat = n) && decide (d.toNat * 256 + e.toNat = v) && decide (len = 3)
  | _ => false
noncomputable def am_g1 (n : Nat) (v : Int) (len : Nat) : List UInt8 → Bool
  | b :: d :: _ => decide (b.toNat = n) && decide (Jvm.ClassFile.Reader.signed 8 d.toNat = v) && decide (len = 2)
  | _ => false
noncomputable def am_g2 (n : Nat) (v : Int) (len : Nat) : List UInt8 → Bool
  | b :: d :: e :: _ => decide (b.toNat = n) && decide (Jvm.ClassFile.Reader.signed 16 (d.toNat * 256 + e.toNat) = v) && decide (len = 3)
  | _ => false
noncomputable def am_g3 (n v : Nat) (z : Int) (len : Nat) : List UInt8 → Bool
  | b :: d :: e :: _ => decide (b.toNat = n) && decide (d.toNat = v) && decide (Jvm.ClassFile.Reader.signed 8 e.toNat = z) && decide (len = 3)
  | _ => false
theorem am_f0_e {c : ByteArray} {p n len : Nat} (h : am_f0 n len (am_by c p) = true) : (Jvm.ClassFile.Reader.u1 : am_Dc Nat) c p = .ok (n, p + 1) ∧ len = 1 := by
  unfold am_f0 at h
  split at h
  · rename_i b r hl
    simp only [Bool.and_eq_true, decide_eq_true_eq] at h
    exact ⟨h.1 ▸ am_u1 hl, h.2⟩
  · cases h
theorem am_f1_e {c : ByteArray} {p n v len : Nat} (h : am_f1 n v len (am_by c p) = true) : (Jvm.ClassFile.Reader.u1 : am_Dc Nat) c p = .ok (n, p + 1) ∧ (Jvm.ClassFile.Reader.u1 : am_Dc Nat) c (p + 1) = .ok (v, p + 2) ∧ len = 2 := by
  unfold am_f1 at h
  split at h
  · rename_i b d r hl
    simp only [Bool.and_eq_true, decide_eq_true_eq] at h
    exact ⟨h.1.1 ▸ am_u1 hl, h.1.2 ▸ am_u1 (am_by_c hl), h.2⟩
  · cases h
theorem am_f2_e {c : ByteArray} {p n v len : Nat} (h : am_f2 n v len (am_by c p) = true) : (Jvm.ClassFile.Reader.u1 : am_Dc Nat) c p = .ok (n, p + 1) ∧ (Jvm.ClassFile.Reader.u2 : am_Dc Nat) c (p + 1) = .ok (v, p + 3) ∧ len = 3 := by
  unfold am_f2 at h
  split at h
  · rename_i b d e r hl
    simp only [Bool.and_eq_true, decide_eq_true_eq] at h
    exact ⟨h.1.1 ▸ am_u1 hl, h.1.2 ▸ am_u2 (am_by_c hl), h.2⟩
  · cases h
theorem am_g1_e {c : ByteArray} {p n len : Nat} {v : Int} (h : am_g1 n v len (am_by c p) = true) : (Jvm.ClassFile.Reader.u1 : am_Dc Nat) c p = .ok (n, p + 1) ∧ (Jvm.ClassFile.Reader.s1 : am_Dc Int) c (p + 1) = .ok (v, p + 2) ∧ len = 2 := by
  unfold am_g1 at h
  split at h
  · rename_i b d r hl
    simp only [Bool.and_eq_true, decide_eq_true_eq] at h
    exact ⟨h.1.1 ▸ am_u1 hl, h.1.2 ▸ am_s1 (am_by_c hl), h.2⟩
  · cases h
theorem am_g2_e {c : ByteArray} {p n len : Nat} {v : Int} (h : am_g2 n v len (am_by c p) = true) : (Jvm.ClassFile.Reader.u1 : am_Dc Nat) c p = .ok (n, p + 1) ∧ (Jvm.ClassFile.Reader.s2 : am_Dc Int) c (p + 1) = .ok (v, p + 3) ∧ len = 3 := by
  unfold am_g2 at h
  split at h
  · rename_i b d e r hl
    simp only [Bool.and_eq_true, decide_eq_true_eq] at h
    exact ⟨h.1.1 ▸ am_u1 hl, h.1.2 ▸ am_s2 (am_by_c hl), h.2⟩
  · cases h
theorem am_g3_e {c : ByteArray} {p n v len : Nat} {z : Int} (h : am_g3 n v z len (am_by c p) = true) : (Jvm.ClassFile.Reader.u1 : am_Dc Nat) c p = .ok (n, p + 1) ∧ (Jvm.ClassFile.Reader.u1 : am_Dc Nat) c (p + 1) = .ok (v, p + 2) ∧ (Jvm.ClassFile.Reader.s1 : am_Dc Int) c (p + 2) = .ok (z, p + 3) ∧ len = 3 := by
  unfold am_g3 at h
  split at h
  · rename_i b d e r hl
    simp only [Bool.and_eq_true, decide_eq_true_eq] at h
    exact ⟨h.1.1.1 ▸ am_u1 hl, h.1.1.2 ▸ am_u1 (am_by_c hl), h.1.2 ▸ am_s1 (am_by_c (am_by_c hl)), h.2⟩
  · cases h
noncomputable def am_cx (c : Jvm.ClassFile.Cond) : Nat := match c with
  | .eq => 0
  | .ne => 1
  | .lt => 2
  | .ge => 3
  | .gt => 4
  | .le => 5
/-- do the bytes at hand spell this instruction, in that many? (false: not known) -/
noncomputable def am_dk (i : Instr) (len : Nat) (l : List UInt8) : Bool := match i with
  | .iaload => am_f0 46 len l
  | .laload => am_f0 47 len l
  | .aaload => am_f0 50 len l
  | .iastore => am_f0 79 len l
  | .lastore => am_f0 80 len l
  | .aastore => am_f0 83 len l
  | .pop => am_f0 87 len l
  | .pop2 => am_f0 88 len l
  | .dup => am_f0 89 len l
  | .dup2 => am_f0 92 len l
  | .iadd => am_f0 96 len l
  | .ladd => am_f0 97 len l
  | .isub => am_f0 100 len l
  | .imul => am_f0 104 len l
  | .lmul => am_f0 105 len l
  | .idiv => am_f0 108 len l
  | .ldiv => am_f0 109 len l
  | .irem => am_f0 112 len l
  | .lrem => am_f0 113 len l
  | .ineg => am_f0 116 len l
  | .ishl => am_f0 120 len l
  | .lshl => am_f0 121 len l
  | .ishr => am_f0 122 len l
  | .iand => am_f0 126 len l
  | .ior => am_f0 128 len l
  | .i2l => am_f0 133 len l
  | .l2i => am_f0 136 len l
  | .i2b => am_f0 145 len l
  | .lcmp => am_f0 148 len l
  | .ireturn => am_f0 172 len l
  | .lreturn => am_f0 173 len l
  | .return_ => am_f0 177 len l
  | .arraylength => am_f0 190 len l
  | .iload_n n => am_f0 (26 + n.val) len l
  | .lload_n n => am_f0 (30 + n.val) len l
  | .aload_n n => am_f0 (42 + n.val) len l
  | .istore_n n => am_f0 (59 + n.val) len l
  | .lstore_n n => am_f0 (63 + n.val) len l
  | .astore_n n => am_f0 (75 + n.val) len l
  | .lconst n => am_f0 (9 + n.val) len l
  | .iconst n => decide (-1 ≤ n ∧ n ≤ 5) && am_f0 (n + 3).toNat len l
  | .ldc v => am_f1 18 v len l
  | .iload v => am_f1 21 v len l
  | .lload v => am_f1 22 v len l
  | .aload v => am_f1 25 v len l
  | .istore v => am_f1 54 v len l
  | .lstore v => am_f1 55 v len l
  | .astore v => am_f1 58 v len l
  | .ldc_w v => am_f2 19 v len l
  | .ldc2_w v => am_f2 20 v len l
  | .getfield v => am_f2 180 v len l
  | .putfield v => am_f2 181 v len l
  | .invokevirtual v => am_f2 182 v len l
  | .invokespecial v => am_f2 183 v len l
  | .invokestatic v => am_f2 184 v len l
  | .new v => am_f2 187 v len l
  | .anewarray v => am_f2 189 v len l
  | .bipush v => am_g1 16 v len l
  | .sipush v => am_g2 17 v len l
  | .goto v => am_g2 167 v len l
  | .ifnull v => am_g2 198 v len l
  | .ifnonnull v => am_g2 199 v len l
  | .ifCond c v => am_g2 (153 + am_cx c) v len l
  | .if_icmp c v => am_g2 (159 + am_cx c) v len l
  | .iinc v z => am_g3 132 v z len l
  | .newarray .int => am_f1 188 10 len l
  | .newarray .long => am_f1 188 11 len l
  | _ => false
theorem ad_iaload {c : ByteArray} {p : Nat} (h : (Jvm.ClassFile.Reader.u1 : am_Dc Nat) c p = .ok (46, p + 1)) : decode c p = .ok (.iaload, 1) := am_dc (am_bd h)
theorem ad_laload {c : ByteArray} {p : Nat} (h : (Jvm.ClassFile.Reader.u1 : am_Dc Nat) c p = .ok (47, p + 1)) : decode c p = .ok (.laload, 1) := am_dc (am_bd h)
theorem ad_aaload {c : ByteArray} {p : Nat} (h : (Jvm.ClassFile.Reader.u1 : am_Dc Nat) c p = .ok (50, p + 1)) : decode c p = .ok (.aaload, 1) := am_dc (am_bd h)
theorem ad_iastore {c : ByteArray} {p : Nat} (h : (Jvm.ClassFile.Reader.u1 : am_Dc Nat) c p = .ok (79, p + 1)) : decode c p = .ok (.iastore, 1) := am_dc (am_bd h)
theorem ad_lastore {c : ByteArray} {p : Nat} (h : (Jvm.ClassFile.Reader.u1 : am_Dc Nat) c p = .ok (80, p + 1)) : decode c p = .ok (.lastore, 1) := am_dc (am_bd h)
theorem ad_aastore {c : ByteArray} {p : Nat} (h : (Jvm.ClassFile.Reader.u1 : am_Dc Nat) c p = .ok (83, p + 1)) : decode c p = .ok (.aastore, 1) := am_dc (am_bd h)
theorem ad_pop {c : ByteArray} {p : Nat} (h : (Jvm.ClassFile.Reader.u1 : am_Dc Nat) c p = .ok (87, p + 1)) : decode c p = .ok (.pop, 1) := am_dc (am_bd h)
theorem ad_pop2 {c : ByteArray} {p : Nat} (h : (Jvm.ClassFile.Reader.u1 : am_Dc Nat) c p = .ok (88, p + 1)) : decode c p = .ok (.pop2, 1) := am_dc (am_bd h)
theorem ad_dup {c : ByteArray} {p : Nat} (h : (Jvm.ClassFile.Reader.u1 : am_Dc Nat) c p = .ok (89, p + 1)) : decode c p = .ok (.dup, 1) := am_dc (am_bd h)
theorem ad_dup2 {c : ByteArray} {p : Nat} (h : (Jvm.ClassFile.Reader.u1 : am_Dc Nat) c p = .ok (92, p + 1)) : decode c p = .ok (.dup2, 1) := am_dc (am_bd h)
theorem ad_iadd {c : ByteArray} {p : Nat} (h : (Jvm.ClassFile.Reader.u1 : am_Dc Nat) c p = .ok (96, p + 1)) : decode c p = .ok (.iadd, 1) := am_dc (am_bd h)
theorem ad_ladd {c : ByteArray} {p : Nat} (h : (Jvm.ClassFile.Reader.u1 : am_Dc Nat) c p = .ok (97, p + 1)) : decode c p = .ok (.ladd, 1) := am_dc (am_bd h)
theorem ad_isub {c : ByteArray} {p : Nat} (h : (Jvm.ClassFile.Reader.u1 : am_Dc Nat) c p = .ok (100, p + 1)) : decode c p = .ok (.isub, 1) := am_dc (am_bd h)
theorem ad_imul {c : ByteArray} {p : Nat} (h : (Jvm.ClassFile.Reader.u1 : am_Dc Nat) c p = .ok (104, p + 1)) : decode c p = .ok (.imul, 1) := am_dc (am_bd h)
theorem ad_lmul {c : ByteArray} {p : Nat} (h : (Jvm.ClassFile.Reader.u1 : am_Dc Nat) c p = .ok (105, p + 1)) : decode c p = .ok (.lmul, 1) := am_dc (am_bd h)
theorem ad_idiv {c : ByteArray} {p : Nat} (h : (Jvm.ClassFile.Reader.u1 : am_Dc Nat) c p = .ok (108, p + 1)) : decode c p = .ok (.idiv, 1) := am_dc (am_bd h)
theorem ad_ldiv {c : ByteArray} {p : Nat} (h : (Jvm.ClassFile.Reader.u1 : am_Dc Nat) c p = .ok (109, p + 1)) : decode c p = .ok (.ldiv, 1) := am_dc (am_bd h)
theorem ad_irem {c : ByteArray} {p : Nat} (h : (Jvm.ClassFile.Reader.u1 : am_Dc Nat) c p = .ok (112, p + 1)) : decode c p = .ok (.irem, 1) := am_dc (am_bd h)
theorem ad_lrem {c : ByteArray} {p : Nat} (h : (Jvm.ClassFile.Reader.u1 : am_Dc Nat) c p = .ok (113, p + 1)) : decode c p = .ok (.lrem, 1) := am_dc (am_bd h)
theorem ad_ineg {c : ByteArray} {p : Nat} (h : (Jvm.ClassFile.Reader.u1 : am_Dc Nat) c p = .ok (116, p + 1)) : decode c p = .ok (.ineg, 1) := am_dc (am_bd h)
theorem ad_ishl {c : ByteArray} {p : Nat} (h : (Jvm.ClassFile.Reader.u1 : am_Dc Nat) c p = .ok (120, p + 1)) : decode c p = .ok (.ishl, 1) := am_dc (am_bd h)
theorem ad_lshl {c : ByteArray} {p : Nat} (h : (Jvm.ClassFile.Reader.u1 : am_Dc Nat) c p = .ok (121, p + 1)) : decode c p = .ok (.lshl, 1) := am_dc (am_bd h)
theorem ad_ishr {c : ByteArray} {p : Nat} (h : (Jvm.ClassFile.Reader.u1 : am_Dc Nat) c p = .ok (122, p + 1)) : decode c p = .ok (.ishr, 1) := am_dc (am_bd h)
theorem ad_iand {c : ByteArray} {p : Nat} (h : (Jvm.ClassFile.Reader.u1 : am_Dc Nat) c p = .ok (126, p + 1)) : decode c p = .ok (.iand, 1) := am_dc (am_bd h)
theorem ad_ior {c : ByteArray} {p : Nat} (h : (Jvm.ClassFile.Reader.u1 : am_Dc Nat) c p = .ok (128, p + 1)) : decode c p = .ok (.ior, 1) := am_dc (am_bd h)
theorem ad_i2l {c : ByteArray} {p : Nat} (h : (Jvm.ClassFile.Reader.u1 : am_Dc Nat) c p = .ok (133, p + 1)) : decode c p = .ok (.i2l, 1) := am_dc (am_bd h)
theorem ad_l2i {c : ByteArray} {p : Nat} (h : (Jvm.ClassFile.Reader.u1 : am_Dc Nat) c p = .ok (136, p + 1)) : decode c p = .ok (.l2i, 1) := am_dc (am_bd h)
theorem ad_i2b {c : ByteArray} {p : Nat} (h : (Jvm.ClassFile.Reader.u1 : am_Dc Nat) c p = .ok (145, p + 1)) : decode c p = .ok (.i2b, 1) := am_dc (am_bd h)
theorem ad_lcmp {c : ByteArray} {p : Nat} (h : (Jvm.ClassFile.Reader.u1 : am_Dc Nat) c p = .ok (148, p + 1)) : decode c p = .ok (.lcmp, 1) := am_dc (am_bd h)
theorem ad_ireturn {c : ByteArray} {p : Nat} (h : (Jvm.ClassFile.Reader.u1 : am_Dc Nat) c p = .ok (172, p + 1)) : decode c p = .ok (.ireturn, 1) := am_dc (am_bd h)
theorem ad_lreturn {c : ByteArray} {p : Nat} (h : (Jvm.ClassFile.Reader.u1 : am_Dc Nat) c p = .ok (173, p + 1)) : decode c p = .ok (.lreturn, 1) := am_dc (am_bd h)
theorem ad_return_ {c : ByteArray} {p : Nat} (h : (Jvm.ClassFile.Reader.u1 : am_Dc Nat) c p = .ok (177, p + 1)) : decode c p = .ok (.return_, 1) := am_dc (am_bd h)
theorem ad_arraylength {c : ByteArray} {p : Nat} (h : (Jvm.ClassFile.Reader.u1 : am_Dc Nat) c p = .ok (190, p + 1)) : decode c p = .ok (.arraylength, 1) := am_dc (am_bd h)
theorem ad_iload_n {c : ByteArray} {p : Nat} : ∀ n : Fin 4, (Jvm.ClassFile.Reader.u1 : am_Dc Nat) c p = .ok (26 + n.val, p + 1) → decode c p = .ok (.iload_n n, 1)
  | 0, h => am_dc (am_bd (show (Jvm.ClassFile.Reader.u1 : am_Dc Nat) c p = .ok (26, p + 1) from h))
  | 1, h => am_dc (am_bd (show (Jvm.ClassFile.Reader.u1 : am_Dc Nat) c p = .ok (27, p + 1) from h))
  | 2, h => am_dc (am_bd (show (Jvm.ClassFile.Reader.u1 : am_Dc Nat) c p = .ok (28, p + 1) from h))
  | 3, h => am_dc (am_bd (show (Jvm.ClassFile.Reader.u1 : am_Dc Nat) c p = .ok (29, p + 1) from h))
theorem ad_lload_n {c : ByteArray} {p : Nat} : ∀ n : Fin 4, (Jvm.ClassFile.Reader.u1 : am_Dc Nat) c p = .ok (30 + n.val, p + 1) → decode c p = .ok (.lload_n n, 1)
  | 0, h => am_dc (am_bd (show (Jvm.ClassFile.Reader.u1 : am_Dc Nat) c p = .ok (30, p + 1) from h))
  | 1, h => am_dc (am_bd (show (Jvm.ClassFile.Reader.u1 : am_Dc Nat) c p = .ok (31, p + 1) from h))
  | 2, h => am_dc (am_bd (show (Jvm.ClassFile.Reader.u1 : am_Dc Nat) c p = .ok (32, p + 1) from h))
  | 3, h => am_dc (am_bd (show (Jvm.ClassFile.Reader.u1 : am_Dc Nat) c p = .ok (33, p + 1) from h))
theorem ad_aload_n {c : ByteArray} {p : Nat} : ∀ n : Fin 4, (Jvm.ClassFile.Reader.u1 : am_Dc Nat) c p = .ok (42 + n.val, p + 1) → decode c p = .ok (.aload_n n, 1)
  | 0, h => am_dc (am_bd (show (Jvm.ClassFile.Reader.u1 : am_Dc Nat) c p = .ok (42, p + 1) from h))
  | 1, h => am_dc (am_bd (show (Jvm.ClassFile.Reader.u1 : am_Dc Nat) c p = .ok (43, p + 1) from h))
  | 2, h => am_dc (am_bd (show (Jvm.ClassFile.Reader.u1 : am_Dc Nat) c p = .ok (44, p + 1) from h))
  | 3, h => am_dc (am_bd (show (Jvm.ClassFile.Reader.u1 : am_Dc Nat) c p = .ok (45, p + 1) from h))
theorem ad_istore_n {c : ByteArray} {p : Nat} : ∀ n : Fin 4, (Jvm.ClassFile.Reader.u1 : am_Dc Nat) c p = .ok (59 + n.val, p + 1) → decode c p = .ok (.istore_n n, 1)
  | 0, h => am_dc (am_bd (show (Jvm.ClassFile.Reader.u1 : am_Dc Nat) c p = .ok (59, p + 1) from h))
  | 1, h => am_dc (am_bd (show (Jvm.ClassFile.Reader.u1 : am_Dc Nat) c p = .ok (60, p + 1) from h))
  | 2, h => am_dc (am_bd (show (Jvm.ClassFile.Reader.u1 : am_Dc Nat) c p = .ok (61, p + 1) from h))
  | 3, h => am_dc (am_bd (show (Jvm.ClassFile.Reader.u1 : am_Dc Nat) c p = .ok (62, p + 1) from h))
theorem ad_lstore_n {c : ByteArray} {p : Nat} : ∀ n : Fin 4, (Jvm.ClassFile.Reader.u1 : am_Dc Nat) c p = .ok (63 + n.val, p + 1) → decode c p = .ok (.lstore_n n, 1)
  | 0, h => am_dc (am_bd (show (Jvm.ClassFile.Reader.u1 : am_Dc Nat) c p = .ok (63, p + 1) from h))
  | 1, h => am_dc (am_bd (show (Jvm.ClassFile.Reader.u1 : am_Dc Nat) c p = .ok (64, p + 1) from h))
  | 2, h => am_dc (am_bd (show (Jvm.ClassFile.Reader.u1 : am_Dc Nat) c p = .ok (65, p + 1) from h))
  | 3, h => am_dc (am_bd (show (Jvm.ClassFile.Reader.u1 : am_Dc Nat) c p = .ok (66, p + 1) from h))
theorem ad_astore_n {c : ByteArray} {p : Nat} : ∀ n : Fin 4, (Jvm.ClassFile.Reader.u1 : am_Dc Nat) c p = .ok (75 + n.val, p + 1) → decode c p = .ok (.astore_n n, 1)
  | 0, h => am_dc (am_bd (show (Jvm.ClassFile.Reader.u1 : am_Dc Nat) c p = .ok (75, p + 1) from h))
  | 1, h => am_dc (am_bd (show (Jvm.ClassFile.Reader.u1 : am_Dc Nat) c p = .ok (76, p + 1) from h))
  | 2, h => am_dc (am_bd (show (Jvm.ClassFile.Reader.u1 : am_Dc Nat) c p = .ok (77, p + 1) from h))
  | 3, h => am_dc (am_bd (show (Jvm.ClassFile.Reader.u1 : am_Dc Nat) c p = .ok (78, p + 1) from h))
theorem ad_lconst {c : ByteArray} {p : Nat} : ∀ n : Fin 2, (Jvm.ClassFile.Reader.u1 : am_Dc Nat) c p = .ok (9 + n.val, p + 1) → decode c p = .ok (.lconst n, 1)
  | 0, h => am_dc (am_bd (show (Jvm.ClassFile.Reader.u1 : am_Dc Nat) c p = .ok (9, p + 1) from h))
  | 1, h => am_dc (am_bd (show (Jvm.ClassFile.Reader.u1 : am_Dc Nat) c p = .ok (10, p + 1) from h))
theorem ad_iconst {c : ByteArray} {p : Nat} {n : Int} (hn : -1 ≤ n ∧ n ≤ 5) (h : (Jvm.ClassFile.Reader.u1 : am_Dc Nat) c p = .ok ((n + 3).toNat, p + 1)) : decode c p = .ok (.iconst n, 1) := by
  have e : n = -1 ∨ n = 0 ∨ n = 1 ∨ n = 2 ∨ n = 3 ∨ n = 4 ∨ n = 5 := by omega
  rcases e with rfl | rfl | rfl | rfl | rfl | rfl | rfl
  · exact am_dc (am_bd (show (Jvm.ClassFile.Reader.u1 : am_Dc Nat) c p = .ok (2, p + 1) from h))
  · exact am_dc (am_bd (show (Jvm.ClassFile.Reader.u1 : am_Dc Nat) c p = .ok (3, p + 1) from h))
  · exact am_dc (am_bd (show (Jvm.ClassFile.Reader.u1 : am_Dc Nat) c p = .ok (4, p + 1) from h))
  · exact am_dc (am_bd (show (Jvm.ClassFile.Reader.u1 : am_Dc Nat) c p = .ok (5, p + 1) from h))
  · exact am_dc (am_bd (show (Jvm.ClassFile.Reader.u1 : am_Dc Nat) c p = .ok (6, p + 1) from h))
  · exact am_dc (am_bd (show (Jvm.ClassFile.Reader.u1 : am_Dc Nat) c p = .ok (7, p + 1) from h))
  · exact am_dc (am_bd (show (Jvm.ClassFile.Reader.u1 : am_Dc Nat) c p = .ok (8, p + 1) from h))
theorem ad_ldc {c : ByteArray} {p v : Nat} (h : (Jvm.ClassFile.Reader.u1 : am_Dc Nat) c p = .ok (18, p + 1)) (g : (Jvm.ClassFile.Reader.u1 : am_Dc Nat) c (p + 1) = .ok (v, p + 2)) : decode c p = .ok (.ldc v, 2) := am_dc ((am_bd h).trans (am_bd g))
theorem ad_iload {c : ByteArray} {p v : Nat} (h : (Jvm.ClassFile.Reader.u1 : am_Dc Nat) c p = .ok (21, p + 1)) (g : (Jvm.ClassFile.Reader.u1 : am_Dc Nat) c (p + 1) = .ok (v, p + 2)) : decode c p = .ok (.iload v, 2) := am_dc ((am_bd h).trans (am_bd g))
theorem ad_lload {c : ByteArray} {p v : Nat} (h : (Jvm.ClassFile.Reader.u1 : am_Dc Nat) c p = .ok (22, p + 1)) (g : (Jvm.ClassFile.Reader.u1 : am_Dc Nat) c (p + 1) = .ok (v, p + 2)) : decode c p = .ok (.lload v, 2) := am_dc ((am_bd h).trans (am_bd g))
theorem ad_aload {c : ByteArray} {p v : Nat} (h : (Jvm.ClassFile.Reader.u1 : am_Dc Nat) c p = .ok (25, p + 1)) (g : (Jvm.ClassFile.Reader.u1 : am_Dc Nat) c (p + 1) = .ok (v, p + 2)) : decode c p = .ok (.aload v, 2) := am_dc ((am_bd h).trans (am_bd g))
theorem ad_istore {c : ByteArray} {p v : Nat} (h : (Jvm.ClassFile.Reader.u1 : am_Dc Nat) c p = .ok (54, p + 1)) (g : (Jvm.ClassFile.Reader.u1 : am_Dc Nat) c (p + 1) = .ok (v, p + 2)) : decode c p = .ok (.istore v, 2) := am_dc ((am_bd h).trans (am_bd g))
theorem ad_lstore {c : ByteArray} {p v : Nat} (h : (Jvm.ClassFile.Reader.u1 : am_Dc Nat) c p = .ok (55, p + 1)) (g : (Jvm.ClassFile.Reader.u1 : am_Dc Nat) c (p + 1) = .ok (v, p + 2)) : decode c p = .ok (.lstore v, 2) := am_dc ((am_bd h).trans (am_bd g))
theorem ad_astore {c : ByteArray} {p v : Nat} (h : (Jvm.ClassFile.Reader.u1 : am_Dc Nat) c p = .ok (58, p + 1)) (g : (Jvm.ClassFile.Reader.u1 : am_Dc Nat) c (p + 1) = .ok (v, p + 2)) : decode c p = .ok (.astore v, 2) := am_dc ((am_bd h).trans (am_bd g))
theorem ad_ldc_w {c : ByteArray} {p v : Nat} (h : (Jvm.ClassFile.Reader.u1 : am_Dc Nat) c p = .ok (19, p + 1)) (g : (Jvm.ClassFile.Reader.u2 : am_Dc Nat) c (p + 1) = .ok (v, p + 3)) : decode c p = .ok (.ldc_w v, 3) := am_dc ((am_bd h).trans (am_bd g))
theorem ad_ldc2_w {c : ByteArray} {p v : Nat} (h : (Jvm.ClassFile.Reader.u1 : am_Dc Nat) c p = .ok (20, p + 1)) (g : (Jvm.ClassFile.Reader.u2 : am_Dc Nat) c (p + 1) = .ok (v, p + 3)) : decode c p = .ok (.ldc2_w v, 3) := am_dc ((am_bd h).trans (am_bd g))
theorem ad_getfield {c : ByteArray} {p v : Nat} (h : (Jvm.ClassFile.Reader.u1 : am_Dc Nat) c p = .ok (180, p + 1)) (g : (Jvm.ClassFile.Reader.u2 : am_Dc Nat) c (p + 1) = .ok (v, p + 3)) : decode c p = .ok (.getfield v, 3) := am_dc ((am_bd h).trans (am_bd g))
theorem ad_putfield {c : ByteArray} {p v : Nat} (h : (Jvm.ClassFile.Reader.u1 : am_Dc Nat) c p = .ok (181, p + 1)) (g : (Jvm.ClassFile.Reader.u2 : am_Dc Nat) c (p + 1) = .ok (v, p + 3)) : decode c p = .ok (.putfield v, 3) := am_dc ((am_bd h).trans (am_bd g))
theorem ad_invokevirtual {c : ByteArray} {p v : Nat} (h : (Jvm.ClassFile.Reader.u1 : am_Dc Nat) c p = .ok (182, p + 1)) (g : (Jvm.ClassFile.Reader.u2 : am_Dc Nat) c (p + 1) = .ok (v, p + 3)) : decode c p = .ok (.invokevirtual v, 3) := am_dc ((am_bd h).trans (am_bd g))
theorem ad_invokespecial {c : ByteArray} {p v : Nat} (h : (Jvm.ClassFile.Reader.u1 : am_Dc Nat) c p = .ok (183, p + 1)) (g : (Jvm.ClassFile.Reader.u2 : am_Dc Nat) c (p + 1) = .ok (v, p + 3)) : decode c p = .ok (.invokespecial v, 3) := am_dc ((am_bd h).trans (am_bd g))
theorem ad_invokestatic {c : ByteArray} {p v : Nat} (h : (Jvm.ClassFile.Reader.u1 : am_Dc Nat) c p = .ok (184, p + 1)) (g : (Jvm.ClassFile.Reader.u2 : am_Dc Nat) c (p + 1) = .ok (v, p + 3)) : decode c p = .ok (.invokestatic v, 3) := am_dc ((am_bd h).trans (am_bd g))
theorem ad_new {c : ByteArray} {p v : Nat} (h : (Jvm.ClassFile.Reader.u1 : am_Dc Nat) c p = .ok (187, p + 1)) (g : (Jvm.ClassFile.Reader.u2 : am_Dc Nat) c (p + 1) = .ok (v, p + 3)) : decode c p = .ok (.new v, 3) := am_dc ((am_bd h).trans (am_bd g))
theorem ad_anewarray {c : ByteArray} {p v : Nat} (h : (Jvm.ClassFile.Reader.u1 : am_Dc Nat) c p = .ok (189, p + 1)) (g : (Jvm.ClassFile.Reader.u2 : am_Dc Nat) c (p + 1) = .ok (v, p + 3)) : decode c p = .ok (.anewarray v, 3) := am_dc ((am_bd h).trans (am_bd g))
theorem ad_bipush {c : ByteArray} {p : Nat} {v : Int} (h : (Jvm.ClassFile.Reader.u1 : am_Dc Nat) c p = .ok (16, p + 1)) (g : (Jvm.ClassFile.Reader.s1 : am_Dc Int) c (p + 1) = .ok (v, p + 2)) : decode c p = .ok (.bipush v, 2) := am_dc ((am_bd h).trans (am_bd g))
theorem ad_sipush {c : ByteArray} {p : Nat} {v : Int} (h : (Jvm.ClassFile.Reader.u1 : am_Dc Nat) c p = .ok (17, p + 1)) (g : (Jvm.ClassFile.Reader.s2 : am_Dc Int) c (p + 1) = .ok (v, p + 3)) : decode c p = .ok (.sipush v, 3) := am_dc ((am_bd h).trans (am_bd g))
theorem ad_goto {c : ByteArray} {p : Nat} {v : Int} (h : (Jvm.ClassFile.Reader.u1 : am_Dc Nat) c p = .ok (167, p + 1)) (g : (Jvm.ClassFile.Reader.s2 : am_Dc Int) c (p + 1) = .ok (v, p + 3)) : decode c p = .ok (.goto v, 3) := am_dc ((am_bd h).trans (am_bd g))
theorem ad_ifnull {c : ByteArray} {p : Nat} {v : Int} (h : (Jvm.ClassFile.Reader.u1 : am_Dc Nat) c p = .ok (198, p + 1)) (g : (Jvm.ClassFile.Reader.s2 : am_Dc Int) c (p + 1) = .ok (v, p + 3)) : decode c p = .ok (.ifnull v, 3) := am_dc ((am_bd h).trans (am_bd g))
theorem ad_ifnonnull {c : ByteArray} {p : Nat} {v : Int} (h : (Jvm.ClassFile.Reader.u1 : am_Dc Nat) c p = .ok (199, p + 1)) (g : (Jvm.ClassFile.Reader.s2 : am_Dc Int) c (p + 1) = .ok (v, p + 3)) : decode c p = .ok (.ifnonnull v, 3) := am_dc ((am_bd h).trans (am_bd g))
theorem ad_ifCond {c : ByteArray} {p : Nat} {v : Int} : ∀ d : Jvm.ClassFile.Cond, (Jvm.ClassFile.Reader.u1 : am_Dc Nat) c p = .ok (153 + am_cx d, p + 1) → (Jvm.ClassFile.Reader.s2 : am_Dc Int) c (p + 1) = .ok (v, p + 3) → decode c p = .ok (.ifCond d v, 3)
  | .eq, h, g => am_dc ((am_bd (show (Jvm.ClassFile.Reader.u1 : am_Dc Nat) c p = .ok (153, p + 1) from h)).trans (am_bd g))
  | .ne, h, g => am_dc ((am_bd (show (Jvm.ClassFile.Reader.u1 : am_Dc Nat) c p = .ok (154, p + 1) from h)).trans (am_bd g))
  | .lt, h, g => am_dc ((am_bd (show (Jvm.ClassFile.Reader.u1 : am_Dc Nat) c p = .ok (155, p + 1) from h)).trans (am_bd g))
  | .ge, h, g => am_dc ((am_bd (show (Jvm.ClassFile.Reader.u1 : am_Dc Nat) c p = .ok (156, p + 1) from h)).trans (am_bd g))
  | .gt, h, g => am_dc ((am_bd (show (Jvm.ClassFile.Reader.u1 : am_Dc Nat) c p = .ok (157, p + 1) from h)).trans (am_bd g))
  | .le, h, g => am_dc ((am_bd (show (Jvm.ClassFile.Reader.u1 : am_Dc Nat) c p = .ok (158, p + 1) from h)).trans (am_bd g))
theorem ad_if_icmp {c : ByteArray} {p : Nat} {v : Int} : ∀ d : Jvm.ClassFile.Cond, (Jvm.ClassFile.Reader.u1 : am_Dc Nat) c p = .ok (159 + am_cx d, p + 1) → (Jvm.ClassFile.Reader.s2 : am_Dc Int) c (p + 1) = .ok (v, p + 3) → decode c p = .ok (.if_icmp d v, 3)
  | .eq, h, g => am_dc ((am_bd (show (Jvm.ClassFile.Reader.u1 : am_Dc Nat) c p = .ok (159, p + 1) from h)).trans (am_bd g))
  | .ne, h, g => am_dc ((am_bd (show (Jvm.ClassFile.Reader.u1 : am_Dc Nat) c p = .ok (160, p + 1) from h)).trans (am_bd g))
  | .lt, h, g => am_dc ((am_bd (show (Jvm.ClassFile.Reader.u1 : am_Dc Nat) c p = .ok (161, p + 1) from h)).trans (am_bd g))
  | .ge, h, g => am_dc ((am_bd (show (Jvm.ClassFile.Reader.u1 : am_Dc Nat) c p = .ok (162, p + 1) from h)).trans (am_bd g))
  | .gt, h, g => am_dc ((am_bd (show (Jvm.ClassFile.Reader.u1 : am_Dc Nat) c p = .ok (163, p + 1) from h)).trans (am_bd g))
  | .le, h, g => am_dc ((am_bd (show (Jvm.ClassFile.Reader.u1 : am_Dc Nat) c p = .ok (164, p + 1) from h)).trans (am_bd g))
theorem ad_iinc {c : ByteArray} {p v : Nat} {z : Int} (h : (Jvm.ClassFile.Reader.u1 : am_Dc Nat) c p = .ok (132, p + 1)) (g : (Jvm.ClassFile.Reader.u1 : am_Dc Nat) c (p + 1) = .ok (v, p + 2)) (k : (Jvm.ClassFile.Reader.s1 : am_Dc Int) c (p + 2) = .ok (z, p + 3)) : decode c p = .ok (.iinc v z, 3) := am_dc ((am_bd h).trans ((am_bd g).trans (am_bd k)))
theorem ad_na_int {c : ByteArray} {p : Nat} (h : (Jvm.ClassFile.Reader.u1 : am_Dc Nat) c p = .ok (188, p + 1)) (g : (Jvm.ClassFile.Reader.u1 : am_Dc Nat) c (p + 1) = .ok (10, p + 2)) : decode c p = .ok (.newarray .int, 2) := am_dc ((am_bd h).trans (am_bd g))
theorem ad_na_long {c : ByteArray} {p : Nat} (h : (Jvm.ClassFile.Reader.u1 : am_Dc Nat) c p = .ok (188, p + 1)) (g : (Jvm.ClassFile.Reader.u1 : am_Dc Nat) c (p + 1) = .ok (11, p + 2)) : decode c p = .ok (.newarray .long, 2) := am_dc ((am_bd h).trans (am_bd g))
theorem am_dk_e {c : ByteArray} {p len : Nat} {i : Instr} (h : am_dk i len (am_by c p) = true) : decode c p = .ok (i, len) := by
  unfold am_dk at h
  split at h
  · obtain ⟨a, rfl⟩ := am_f0_e h; exact ad_iaload a
  · obtain ⟨a, rfl⟩ := am_f0_e h; exact ad_laload a
  · obtain ⟨a, rfl⟩ := am_f0_e h; exact ad_aaload a
  · obtain ⟨a, rfl⟩ := am_f0_e h; exact ad_iastore a
  · obtain ⟨a, rfl⟩ := am_f0_e h; exact ad_lastore a
  · obtain ⟨a, rfl⟩ := am_f0_e h; exact ad_aastore a
  · obtain ⟨a, rfl⟩ := am_f0_e h; exact ad_pop a
  · obtain ⟨a, rfl⟩ := am_f0_e h; exact ad_pop2 a
  · obtain ⟨a, rfl⟩ := am_f0_e h; exact ad_dup a
  · obtain ⟨a, rfl⟩ := am_f0_e h; exact ad_dup2 a
  · obtain ⟨a, rfl⟩ := am_f0_e h; exact ad_iadd a
  · obtain ⟨a, rfl⟩ := am_f0_e h; exact ad_ladd a
  · obtain ⟨a, rfl⟩ := am_f0_e h; exact ad_isub a
  · obtain ⟨a, rfl⟩ := am_f0_e h; exact ad_imul a
  · obtain ⟨a, rfl⟩ := am_f0_e h; exact ad_lmul a
  · obtain ⟨a, rfl⟩ := am_f0_e h; exact ad_idiv a
  · obtain ⟨a, rfl⟩ := am_f0_e h; exact ad_ldiv a
  · obtain ⟨a, rfl⟩ := am_f0_e h; exact ad_irem a
  · obtain ⟨a, rfl⟩ := am_f0_e h; exact ad_lrem a
  · obtain ⟨a, rfl⟩ := am_f0_e h; exact ad_ineg a
  · obtain ⟨a, rfl⟩ := am_f0_e h; exact ad_ishl a
  · obtain ⟨a, rfl⟩ := am_f0_e h; exact ad_lshl a
  · obtain ⟨a, rfl⟩ := am_f0_e h; exact ad_ishr a
  · obtain ⟨a, rfl⟩ := am_f0_e h; exact ad_iand a
  · obtain ⟨a, rfl⟩ := am_f0_e h; exact ad_ior a
  · obtain ⟨a, rfl⟩ := am_f0_e h; exact ad_i2l a
  · obtain ⟨a, rfl⟩ := am_f0_e h; exact ad_l2i a
  · obtain ⟨a, rfl⟩ := am_f0_e h; exact ad_i2b a
  · obtain ⟨a, rfl⟩ := am_f0_e h; exact ad_lcmp a
  · obtain ⟨a, rfl⟩ := am_f0_e h; exact ad_ireturn a
  · obtain ⟨a, rfl⟩ := am_f0_e h; exact ad_lreturn a
  · obtain ⟨a, rfl⟩ := am_f0_e h; exact ad_return_ a
  · obtain ⟨a, rfl⟩ := am_f0_e h; exact ad_arraylength a
  · obtain ⟨a, rfl⟩ := am_f0_e h; exact ad_iload_n _ a
  · obtain ⟨a, rfl⟩ := am_f0_e h; exact ad_lload_n _ a
  · obtain ⟨a, rfl⟩ := am_f0_e h; exact ad_aload_n _ a
  · obtain ⟨a, rfl⟩ := am_f0_e h; exact ad_istore_n _ a
  · obtain ⟨a, rfl⟩ := am_f0_e h; exact ad_lstore_n _ a
  · obtain ⟨a, rfl⟩ := am_f0_e h; exact ad_astore_n _ a
  · obtain ⟨a, rfl⟩ := am_f0_e h; exact ad_lconst _ a
  · simp only [Bool.and_eq_true, decide_eq_true_eq] at h; obtain ⟨a, rfl⟩ := am_f0_e h.2; exact ad_iconst h.1 a
  · obtain ⟨a, b, rfl⟩ := am_f1_e h; exact ad_ldc a b
  · obtain ⟨a, b, rfl⟩ := am_f1_e h; exact ad_iload a b
  · obtain ⟨a, b, rfl⟩ := am_f1_e h; exact ad_lload a b
  · obtain ⟨a, b, rfl⟩ := am_f1_e h; exact ad_aload a b
  · obtain ⟨a, b, rfl⟩ := am_f1_e h; exact ad_istore a b
  · obtain ⟨a, b, rfl⟩ := am_f1_e h; exact ad_lstore a b
  · obtain ⟨a, b, rfl⟩ := am_f1_e h; exact ad_astore a b
  · obtain ⟨a, b, rfl⟩ := am_f2_e h; exact ad_ldc_w a b
  · obtain ⟨a, b, rfl⟩ := am_f2_e h; exact ad_ldc2_w a b
  · obtain ⟨a, b, rfl⟩ := am_f2_e h; exact ad_getfield a b
  · obtain ⟨a, b, rfl⟩ := am_f2_e h; exact ad_putfield a b
  · obtain ⟨a, b, rfl⟩ := am_f2_e h; exact ad_invokevirtual a b
  · obtain ⟨a, b, rfl⟩ := am_f2_e h; exact ad_invokespecial a b
  · obtain ⟨a, b, rfl⟩ := am_f2_e h; exact ad_invokestatic a b
  · obtain ⟨a, b, rfl⟩ := am_f2_e h; exact ad_new a b
  · obtain ⟨a, b, rfl⟩ := am_f2_e h; exact ad_anewarray a b
  · obtain ⟨a, b, rfl⟩ := am_g1_e h; exact ad_bipush a b
  · obtain ⟨a, b, rfl⟩ := am_g2_e h; exact ad_sipush a b
  · obtain ⟨a, b, rfl⟩ := am_g2_e h; exact ad_goto a b
  · obtain ⟨a, b, rfl⟩ := am_g2_e h; exact ad_ifnull a b
  · obtain ⟨a, b, rfl⟩ := am_g2_e h; exact ad_ifnonnull a b
  · obtain ⟨a, b, rfl⟩ := am_g2_e h; exact ad_ifCond _ a b
  · obtain ⟨a, b, rfl⟩ := am_g2_e h; exact ad_if_icmp _ a b
  · obtain ⟨a, b, d, rfl⟩ := am_g3_e h; exact ad_iinc a b d
  · obtain ⟨a, b, rfl⟩ := am_f1_e h; exact ad_na_int a b
  · obtain ⟨a, b, rfl⟩ := am_f1_e h; exact ad_na_long a b
  · cases h
noncomputable def am_ckC (k : Nat) (tp : Nat → Nat) : Nat → List UInt8 → List am_E → List (Nat × List Nat) → Option Nat → Bool
  | pc, _, [], [], some t => decide (tp t = pc)
  | _, _, [], [], none => true
  | pc, l, e :: es, c :: cs, fall => (am_dk e.1 c.1 l || decide (decode (am_cc k) pc = .ok (e.1, c.1))) && am_lnk k tp pc e.1 c.1 e.2 c.2 && am_ckC k tp (pc + c.1) (l.drop c.1) es cs fall
  | _, _, _, _, _ => false
theorem am_ckC_e {k : Nat} {tp : Nat → Nat} {fall : Option Nat} : ∀ (es : List am_E) (cs : List (Nat × List Nat)) (pc : Nat), am_ckC k tp pc (am_by (am_cc k) pc) es cs fall = true → am_ckB k tp pc es cs fall = true
  | [], [], pc, h => by cases fall <;> exact h
  | e :: es, c :: cs, pc, h => by
    simp only [am_ckC, Bool.and_eq_true] at h
    simp only [am_ckB, Bool.and_eq_true, decide_eq_true_eq]
    rw [← am_by_s] at h
    refine ⟨⟨?_, h.1.2⟩, am_ckC_e es cs _ h.2⟩
    rcases Bool.or_eq_true _ _ ▸ h.1.1 with a | a
    · exact am_dk_e a
    · exact of_decide_eq_true a
  | [], _ :: _, pc, h => by cases fall <;> simp [am_ckC] at h
  | _ :: _, [], pc, h => by cases fall <;> simp [am_ckC] at h
noncomputable def am_ckM (k : Nat) (tp : Nat → Nat) : List am_B → List (List (Nat × List Nat)) → Bool
  | [], [] => true
  | b :: bs, c :: cs => am_ckC k tp b.1 (am_by (am_cc k) b.1) b.2.1 c b.2.2 && am_ckM k tp bs cs
  | _, _ => false
theorem am_ckM_e {k : Nat} {tp : Nat → Nat} : ∀ (bs : List am_B) (cs : List (List (Nat × List Nat))), am_ckM k tp bs cs = true → am_ckL k tp bs cs = true
  | [], [], _ => rfl
  | b :: bs, c :: cs, h => by
    simp only [am_ckM, Bool.and_eq_true] at h
    simp only [am_ckL, Bool.and_eq_true]
    exact ⟨am_ckC_e _ _ _ h.1, am_ckM_e bs cs h.2⟩
  | [], _ :: _, h => by simp [am_ckM] at h
  | _ :: _, [], h => by simp [am_ckM] at h
theorem am_ckD {k : Nat} {bs : List am_B} {cs : List (List (Nat × List Nat))} (h : am_ckM k (am_tp bs) bs cs = true) : am_ck k bs cs = true := am_ckM_e bs cs h
end
