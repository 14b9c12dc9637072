/-! From the function to the machine. -/
noncomputable def am_FS (sh : am_Sh) (F : Nat → List am_V → am_M → am_Rs) : Prop := ∀ k as M x M', F k as M = some (x, M') → am_Calls k as sh M (am_rv (am_rk k) x) sh M'
noncomputable def am_sm (a b : am_Sh) : Prop := a = b
set_option maxHeartbeats 4000000 in
theorem vW_e {sc : Option (Nat × (Nat → Int))} {fin : Nat × Nat} {k pc : Nat} {tp : Nat → Nat} {i : Instr} {len : Nat} {f ix : List Nat} {lv : am_Lv} {st : List am_V} {sh : am_Sh} {M : am_M} {N : am_K} {J : Nat → am_K} {F : Nat → List am_V → am_M → am_Rs} {r : Int × am_M}
    (hl : am_lnk k tp pc i len f ix = true) (hF : am_FS sh F) (h : vW sc sh F i f lv st M N J = some r) :
    am_stp sc fin i f lv st sh M (fun lv st s M => am_sm s sh ∧ N lv st M = some r) (fun t lv st s M => am_sm s sh ∧ J t lv st M = some r) (fun v s M => v = am_rv (am_rk k) r.1 ∧ am_sm s sh ∧ M = r.2) := by
  cases i <;> try (exfalso; exact Option.noConfusion h; done)
  all_goals simp only [vW] at h
  all_goals simp only [am_stp]
  case iconst n => exact ⟨rfl, h⟩
  case bipush n => exact ⟨rfl, h⟩
  case sipush n => exact ⟨rfl, h⟩
  case lconst n =>
    split at h
    · exact ⟨rfl, h⟩
    · exact ⟨rfl, h⟩
  case ldc j => exact ⟨rfl, h⟩
  case ldc_w j => exact ⟨rfl, h⟩
  case ldc2_w j =>
    split at h
    · exact ⟨rfl, h⟩
    · exact ⟨rfl, h⟩
    · cases h
  case iload n => have h := hI_e h; unfold gI at *; split at h <;> first | exact ⟨rfl, h⟩ | exact h.elim
  case iload_n n => have h := hI_e h; unfold gI at *; split at h <;> first | exact ⟨rfl, h⟩ | exact h.elim
  case lload n => have h := hL_e h; unfold gL at *; split at h <;> first | exact ⟨rfl, h⟩ | exact h.elim
  case lload_n n => have h := hL_e h; unfold gL at *; split at h <;> first | exact ⟨rfl, h⟩ | exact h.elim
  case aload n => have h := hX_e h; unfold gX at *; split at h <;> first | exact ⟨rfl, h⟩ | exact h.elim
  case aload_n n => have h := hX_e h; unfold gX at *; split at h <;> first | exact ⟨rfl, h⟩ | exact h.elim
  case istore n => exact pI_m (vI_e h) fun x s h => ⟨rfl, h⟩
  case istore_n n => exact pI_m (vI_e h) fun x s h => ⟨rfl, h⟩
  case astore n => exact pX_m (vX_e h) fun x s h => ⟨rfl, h⟩
  case astore_n n => exact pX_m (vX_e h) fun x s h => ⟨rfl, h⟩
  case lstore n => exact pL_m (vL_e h) fun x s h => ⟨rfl, h⟩
  case lstore_n n => exact pL_m (vL_e h) fun x s h => ⟨rfl, h⟩
  case iinc n z => have h := hI_e h; unfold gI at *; split at h <;> first | exact ⟨rfl, h⟩ | exact h.elim
  case iadd => exact pI_m (vI_e h) fun x s h => pI_m (vI_e h) fun x s h => ⟨rfl, h⟩
  case isub => exact pI_m (vI_e h) fun x s h => pI_m (vI_e h) fun x s h => ⟨rfl, h⟩
  case imul => exact pI_m (vI_e h) fun x s h => pI_m (vI_e h) fun x s h => ⟨rfl, h⟩
  case idiv => exact pI_m (vI_e h) fun x s h => pI_m (vI_e h) fun x s h => ⟨(if_s h).1, rfl, (if_s h).2⟩
  case irem => exact pI_m (vI_e h) fun x s h => pI_m (vI_e h) fun x s h => ⟨(if_s h).1, rfl, (if_s h).2⟩
  case ineg => exact pI_m (vI_e h) fun x s h => ⟨rfl, h⟩
  case iand => exact pI_m (vI_e h) fun x s h => pI_m (vI_e h) fun x s h => ⟨rfl, h⟩
  case ior => exact pI_m (vI_e h) fun x s h => pI_m (vI_e h) fun x s h => ⟨rfl, h⟩
  case ishl => exact pI_m (vI_e h) fun x s h => pI_m (vI_e h) fun x s h => ⟨rfl, h⟩
  case ishr => exact pI_m (vI_e h) fun x s h => pI_m (vI_e h) fun x s h => ⟨rfl, h⟩
  case ladd => exact pL_m (vL_e h) fun x s h => pL_m (vL_e h) fun x s h => ⟨rfl, h⟩
  case lmul => exact pL_m (vL_e h) fun x s h => pL_m (vL_e h) fun x s h => ⟨rfl, h⟩
  case ldiv => exact pL_m (vL_e h) fun x s h => pL_m (vL_e h) fun x s h => ⟨(if_s h).1, rfl, (if_s h).2⟩
  case lrem => exact pL_m (vL_e h) fun x s h => pL_m (vL_e h) fun x s h => ⟨(if_s h).1, rfl, (if_s h).2⟩
  case lshl => exact pI_m (vI_e h) fun x s h => pL_m (vL_e h) fun x s h => ⟨rfl, h⟩
  case lcmp => exact pL_m (vL_e h) fun x s h => pL_m (vL_e h) fun x s h => ⟨rfl, h⟩
  case i2l => exact pI_m (vI_e h) fun x s h => ⟨rfl, h⟩
  case l2i => exact pL_m (vL_e h) fun x s h => ⟨rfl, h⟩
  case i2b => exact pI_m (vI_e h) fun x s h => ⟨rfl, h⟩
  case dup => exact pV_m (vV_e h) fun x s h => ⟨(if_s h).1, rfl, (if_s h).2⟩
  case pop => exact pV_m (vV_e h) fun x s h => ⟨(if_s h).1, rfl, (if_s h).2⟩
  case dup2 => exact pV_m (vV_e h) fun x s h => pV_m (vV_e h) fun x s h => ⟨(if_s h).1.1, (if_s h).1.2, rfl, (if_s h).2⟩
  case getfield j =>
    split at h
    · refine pR_m (vR_e h) fun a s h => pC_m (vC_e h) fun q h => ?_
      obtain ⟨⟨h1, h2⟩, h⟩ := if_s h
      refine ⟨h1, h2, ?_⟩
      split at h
      · rename_i e; rw [if_pos e]; exact pF_m (vF_e h) fun r h => ⟨rfl, h⟩
      · rename_i e; rw [if_neg e]
        split at h
        · rename_i e; rw [if_pos e]; exact ⟨rfl, h⟩
        · rename_i e; rw [if_neg e]; exact ⟨rfl, h⟩
    · cases h
  case putfield j =>
    split at h
    · dsimp only
      split at h
      · cases h
      · rename_i e; rw [if_neg e]
        split at h
        · rename_i e; rw [if_pos e]
          exact pL_m (vL_e h) fun x s h => pR_m (vR_e h) fun a s h => pC_m (vC_e h) fun q h => ⟨(if_s h).1.1, (if_s h).1.2, rfl, (if_s h).2⟩
        · rename_i e; rw [if_neg e]
          split at h
          · rename_i e; rw [if_pos e]
            exact pI_m (vI_e h) fun x s h => pR_m (vR_e h) fun a s h => pC_m (vC_e h) fun q h => ⟨(if_s h).1.1, (if_s h).1.2, (if_s (if_s h).2).1, rfl, (if_s (if_s h).2).2⟩
          · rename_i e; rw [if_neg e]
            exact pI_m (vI_e h) fun x s h => pR_m (vR_e h) fun a s h => pC_m (vC_e h) fun q h => ⟨(if_s h).1.1, (if_s h).1.2, rfl, (if_s h).2⟩
    · cases h
  case iaload =>
    refine pI_m (vI_e h) fun x s h => pX_m (vX_e h) fun a s h => ?_
    split at h
    · exact pC_m (vC_e h) fun q h => ⟨(if_s h).1, (if_s (if_s h).2).1, rfl, (if_s (if_s h).2).2⟩
    · split at h
      · exact ⟨(if_s h).1, rfl, (if_s h).2⟩
      · cases h
  case laload => exact pI_m (vI_e h) fun x s h => pR_m (vR_e h) fun a s h => pC_m (vC_e h) fun q h => ⟨(if_s h).1, (if_s (if_s h).2).1, rfl, (if_s (if_s h).2).2⟩
  case aaload =>
    refine pI_m (vI_e h) fun x s h => pR_m (vR_e h) fun a s h => pC_m (vC_e h) fun q h => ?_
    obtain ⟨⟨h1, h2⟩, h⟩ := if_s h
    obtain ⟨j, b, g1, g2, g3, g4⟩ := vQ_e _ _ h
    refine ⟨h1, ⟨by omega, by omega⟩, ?_⟩
    rw [show (wI x).toNat = j by omega, g3]
    exact ⟨rfl, g4⟩
  case iastore => exact pI_m (vI_e h) fun x s h => pI_m (vI_e h) fun x s h => pR_m (vR_e h) fun a s h => pC_m (vC_e h) fun q h => ⟨(if_s h).1, (if_s (if_s h).2).1, rfl, (if_s (if_s h).2).2⟩
  case lastore => exact pL_m (vL_e h) fun x s h => pI_m (vI_e h) fun x s h => pR_m (vR_e h) fun a s h => pC_m (vC_e h) fun q h => ⟨(if_s h).1, (if_s (if_s h).2).1, rfl, (if_s (if_s h).2).2⟩
  case arraylength =>
    refine pX_m (vX_e h) fun a s h => ?_
    split at h
    · exact pC_m (vC_e h) fun q h => (if_s h).1.imp (fun e => ⟨e, rfl, (if_s h).2⟩) (fun e => ⟨e, rfl, (if_s h).2⟩)
    · split at h
      · exact ⟨rfl, h⟩
      · cases h
  case invokevirtual j =>
    split at h
    · simp only [am_lnk, Bool.and_eq_true, decide_eq_true_eq] at hl
      obtain ⟨-, ⟨⟨⟨⟨⟨⟨⟨-, hrk⟩, -⟩, -⟩, -⟩, -⟩, -⟩, -⟩⟩ := hl
      refine pA_m (vA_e h) fun as s h => pR_m (vR_e h) fun a s h => pC_m (vC_e h) fun q h => ?_
      obtain ⟨⟨h1, h2⟩, h⟩ := if_s h
      obtain ⟨z, h3, h4⟩ := Option.bind_eq_some_iff.mp h
      obtain ⟨x, M1⟩ := z
      refine ⟨h1, h2, _, M1, hF _ _ _ _ _ h3, rfl, ?_⟩
      rw [am_rv_vP, hrk]; exact h4
    · cases h
  case invokestatic j =>
    split at h
    · simp only [am_lnk, Bool.and_eq_true, decide_eq_true_eq] at hl
      obtain ⟨-, ⟨⟨⟨-, hrk⟩, -⟩, -⟩, -⟩ := hl
      refine pA_m (vA_e h) fun as s h => ?_
      obtain ⟨h2, h⟩ := if_s h
      obtain ⟨z, h3, h4⟩ := Option.bind_eq_some_iff.mp h
      obtain ⟨x, M1⟩ := z
      refine ⟨h2, _, M1, hF _ _ _ _ _ h3, rfl, ?_⟩
      rw [am_rv_vP, hrk]; exact h4
    · refine pI_m (vI_e h) fun x s h => pI_m (vI_e h) fun x s h => pR_m (vR_e h) fun x s h => pI_m (vI_e h) fun x s h => pR_m (vR_e h) fun x s h => pC_m (vC_e h) fun q h => pC_m (vC_e h) fun q h => ?_
      obtain ⟨⟨h1, h2⟩, h⟩ := if_s h
      obtain ⟨h3, h⟩ := if_s h
      exact ⟨h1, h3, h2, rfl, h⟩
    · dsimp only
      split at h
      · rename_i e; rw [if_pos e]; exact pI_m (vI_e h) fun x s h => ⟨(if_s h).1, rfl, (if_s h).2⟩
      · rename_i e; rw [if_neg e]
        split at h
        · rename_i e; rw [if_pos e]; exact pI_m (vI_e h) fun x s h => pI_m (vI_e h) fun x s h => ⟨(if_s h).1, rfl, (if_s h).2⟩
        · rename_i e; rw [if_neg e]; exact pI_m (vI_e h) fun x s h => pI_m (vI_e h) fun x s h => ⟨(if_s h).1, rfl, (if_s h).2⟩
    · cases h
  case goto off =>
    split at h
    · exact ⟨rfl, h⟩
    · cases h
  case ifCond c off =>
    split at h
    · exact pI_m (vI_e h) fun x s h => ⟨fun q => ⟨rfl, (vB_e h).1 q⟩, fun q => ⟨rfl, (vB_e h).2 q⟩⟩
    · cases h
  case if_icmp c off =>
    split at h
    · exact pI_m (vI_e h) fun x s h => pI_m (vI_e h) fun x s h => ⟨fun q => ⟨rfl, (vB_e h).1 q⟩, fun q => ⟨rfl, (vB_e h).2 q⟩⟩
    · cases h
  case ifnull off =>
    split at h
    · exact pR_m (vR_e h) fun x s h => ⟨rfl, h⟩
    · cases h
  case ifnonnull off =>
    split at h
    · exact pR_m (vR_e h) fun x s h => ⟨rfl, h⟩
    · cases h
  case tableswitch d lo hi offs =>
    split at h
    · refine pI_m (vI_e h) fun x s h => ?_
      obtain ⟨h1, h⟩ := if_s h
      obtain ⟨h2, h3⟩ := vS_e _ _ h
      refine ⟨fun q => ⟨rfl, h2 (by rw [h1] at q; exact q)⟩, ?_⟩
      have : ∀ (ts : List Nat) (lo : Int) (P Q : Nat → Prop), (∀ t, P t → Q t) → am_sw (wI x) lo ts P → am_sw (wI x) lo ts Q := by
        intro ts
        induction ts with
        | nil => intro _ _ _ _ _; trivial
        | cons a ts ih => intro lo P Q m hh; exact ⟨fun q => m _ (hh.1 q), ih _ P Q m hh.2⟩
      exact this _ _ _ _ (fun t h => ⟨rfl, h⟩) h3
    · cases h
  case ireturn =>
    simp only [am_lnk, Bool.and_eq_true, decide_eq_true_eq] at hl
    have hrk : am_rk k = 1 := by
      rcases hl.2 with e | ⟨e, -⟩ <;> simp [am_rk, e]
    refine pI_m (vI_e h) fun x s h => ?_
    split at h
    · refine ⟨rfl, ?_⟩
      split at h
      · obtain ⟨h1, h⟩ := if_s h
        cases h
        exact ⟨fun _ => h1, by simp [hrk, am_rv], rfl, rfl⟩
      · rename_i e
        cases h
        exact ⟨fun q => absurd q e, by simp [hrk, am_rv], rfl, rfl⟩
    · cases h
  case lreturn =>
    simp only [am_lnk, Bool.and_eq_true, decide_eq_true_eq] at hl
    have hrk : am_rk k = 2 := by simp [am_rk, hl.2]
    refine pL_m (vL_e h) fun x s h => ?_
    split at h
    · cases h
      exact ⟨rfl, by simp [hrk, am_rv], rfl, rfl⟩
    · cases h
  case return_ =>
    simp only [am_lnk, Bool.and_eq_true, decide_eq_true_eq] at hl
    have hrk : am_rk k = 0 := by simp [am_rk, hl.2]
    split at h
    · cases h
      exact ⟨rfl, by simp [hrk, am_rv], rfl, rfl⟩
    · cases h
  all_goals cases h
noncomputable def vBk (sc : Option (Nat × (Nat → Int))) (sh : am_Sh) (F : Nat → List am_V → am_M → am_Rs) (J : Nat → am_K) (fall : Option Nat) : List am_E → am_K
  | [], lv, st, M => (match fall with
    | some t => J t lv st M
    | none => none)
  | e :: es, lv, st, M => vW sc sh F e.1 e.2 lv st M (vBk sc sh F J fall es) J
noncomputable def vRun (sc : Option (Nat × (Nat → Int))) (sh : am_Sh) (F : Nat → List am_V → am_M → am_Rs) (bs : List am_B) (C : Nat → am_K) : Nat → Nat → am_K
  | 0, _, _, _, _ => none
  | n + 1, b, lv, st, M => (match bs[b]? with
    | none => none
    | some q => vBk sc sh F (fun t => if 1000 ≤ t then C (t - 1000) else vRun sc sh F bs C n t) q.2.2 q.2.1 lv st M)
theorem vBk_e {sc : Option (Nat × (Nat → Int))} {sh : am_Sh} {F : Nat → List am_V → am_M → am_Rs} {k : Nat} {tp : Nat → Nat} {r : Int × am_M} {J : Nat → am_K} {fall : Option Nat} (hF : am_FS sh F) (hJ : ∀ t lv st M, J t lv st M = some r → am_At sc k (tp t) lv st sh M (am_rv (am_rk k) r.1) sh r.2) :
    ∀ (es : List am_E) (cs : List (Nat × List Nat)) (pc : Nat) (lv : am_Lv) (st : List am_V) (M : am_M), am_ckB k tp pc es cs fall = true → vBk sc sh F J fall es lv st M = some r → am_At sc k pc lv st sh M (am_rv (am_rk k) r.1) sh r.2
  | [], [], pc, lv, st, M, hc, h => by
    cases fall with
    | none => cases h
    | some t =>
      simp only [am_ckB, decide_eq_true_eq] at hc
      rw [← hc]
      exact hJ t lv st M h
  | e :: es, c :: cs, pc, lv, st, M, hc, h => by
    simp only [am_ckB, Bool.and_eq_true, decide_eq_true_eq] at hc
    exact am_step hc.1.1 hc.1.2 (fun lv st s M hn => by obtain ⟨rfl, hn⟩ := hn; exact vBk_e hF hJ es cs (pc + c.1) lv st M hc.2 hn) (fun t lv st s M hn => by obtain ⟨rfl, hn⟩ := hn; exact hJ t lv st M hn) (vW_e hc.1.2 hF h)
  | [], _ :: _, pc, lv, st, M, hc, h => by cases fall <;> simp [am_ckB] at hc
  | _ :: _, [], pc, lv, st, M, hc, h => by cases fall <;> simp [am_ckB] at hc
theorem vRegion {sc : Option (Nat × (Nat → Int))} {sh : am_Sh} {F : Nat → List am_V → am_M → am_Rs} {k : Nat} {bs : List am_B} {cs : List (List (Nat × List Nat))} {r : Int × am_M} {C : Nat → am_K} (hck : am_ck k bs cs = true) (hF : am_FS sh F) (hC : ∀ t lv st M, C t lv st M = some r → am_R sc k bs t lv st sh M (am_rv (am_rk k) r.1) sh r.2) :
    ∀ (n b : Nat) (lv : am_Lv) (st : List am_V) (M : am_M), vRun sc sh F bs C n b lv st M = some r → am_R sc k bs b lv st sh M (am_rv (am_rk k) r.1) sh r.2
  | 0, b, lv, st, M, h => by cases h
  | n + 1, b, lv, st, M, h => by
    unfold vRun at h
    split at h
    · cases h
    · rename_i q hq
      obtain ⟨c, hc⟩ := am_ckL_e bs cs hck b q hq
      have e1 : am_pc bs b = q.1 := by simp [am_pc, List.getD_eq_getElem?_getD, hq]
      unfold am_R
      rw [e1]
      refine vBk_e hF (fun t lv st M hj => ?_) _ c _ lv st M hc h
      unfold am_tp
      split at hj
      · rename_i ht
        rw [if_pos ht]; exact hC _ _ _ _ hj
      · rename_i ht
        rw [if_neg ht]; exact vRegion hck hF hC n t lv st M hj
/-- a method without loops -/
theorem vCall {sh : am_Sh} {F : Nat → List am_V → am_M → am_Rs} {k n fu : Nat} {bs : List am_B} {cs : List (List (Nat × List Nat))} {C : Nat → am_K} {as : List am_V} {M M' : am_M} {x : Int} (hck : am_ck k bs cs = true) (hp : plainName (am_y k).cls = true) (hn : am_ml k = n) (hb : am_pc bs 0 = 0) (hl : (am_argl as).length ≤ n) (hF : am_FS sh F)
    (hC : ∀ t lv st M, C t lv st M = some (x, M') → am_R none k bs t lv st sh M (am_rv (am_rk k) x) sh M') (h : vRun none sh F bs C fu 0 (am_ent n as) [] M = some (x, M')) : am_Calls k as sh M (am_rv (am_rk k) x) sh M' :=
  am_enter hp hn hb hl ⟨Nat.le_refl _, Nat.le_refl _⟩ (vRegion hck hF hC fu 0 _ _ _ h)
