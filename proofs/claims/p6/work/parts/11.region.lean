/-! Blocks, stretches of blocks between cuts, a method's entry. -/
noncomputable abbrev am_E : Type := Instr × List Nat
noncomputable abbrev am_B : Type := Nat × List am_E × Option Nat
noncomputable def am_blk (sc : Option (Nat × (Nat → Int))) (fin : Nat × Nat) (J : Nat → am_N) (Rt : Option am_V → am_Sh → am_M → Prop) (fall : Option Nat) : List am_E → am_N
  | [], lv, st, sh, M => (match fall with
    | some t => J t lv st sh M
    | none => False)
  | e :: es, lv, st, sh, M => am_stp sc fin e.1 e.2 lv st sh M (am_blk sc fin J Rt fall es) J Rt
noncomputable def am_pc (bs : List am_B) (b : Nat) : Nat := (bs.getD b (0, [], none)).1
noncomputable def am_tp (bs : List am_B) (t : Nat) : Nat := am_pc bs (if 1000 ≤ t then t - 1000 else t)
noncomputable def am_ckB (k : Nat) (tp : Nat → Nat) : Nat → List am_E → List (Nat × List Nat) → Option Nat → Bool
  | pc, [], [], some t => decide (tp t = pc)
  | _, [], [], none => true
  | pc, e :: es, c :: cs, fall => decide (decode (am_cc k) pc = .ok (e.1, c.1)) && am_lnk k tp pc e.1 c.1 e.2 c.2 && am_ckB k tp (pc + c.1) es cs fall
  | _, _, _, _ => false
noncomputable def am_ckL (k : Nat) (tp : Nat → Nat) : List am_B → List (List (Nat × List Nat)) → Bool
  | [], [] => true
  | b :: bs, c :: cs => am_ckB k tp b.1 b.2.1 c b.2.2 && am_ckL k tp bs cs
  | _, _ => false
noncomputable def am_ck (k : Nat) (bs : List am_B) (cs : List (List (Nat × List Nat))) : Bool := am_ckL k (am_tp bs) bs cs
theorem am_ckL_e {k : Nat} {tp : Nat → Nat} : ∀ (bs : List am_B) (cs : List (List (Nat × List Nat))), am_ckL k tp bs cs = true → ∀ (b : Nat) (q : am_B), bs[b]? = some q → ∃ c, am_ckB k tp q.1 q.2.1 c q.2.2 = true
  | [], [], _, b, q, h => by simp at h
  | b1 :: bs, c1 :: cs, h, 0, q, hq => by
    simp only [am_ckL, Bool.and_eq_true] at h
    simp at hq; subst hq
    exact ⟨c1, h.1⟩
  | b1 :: bs, c1 :: cs, h, b + 1, q, hq => by
    simp only [am_ckL, Bool.and_eq_true] at h
    exact am_ckL_e bs cs h.2 b q (by simpa using hq)
  | [], _ :: _, h, _, _, _ => by simp [am_ckL] at h
  | _ :: _, [], h, _, _, _ => by simp [am_ckL] at h
theorem am_blk_e {sc : Option (Nat × (Nat → Int))} {k : Nat} {tp : Nat → Nat} {v : Option am_V} {sh' : am_Sh} {M' : am_M} {J : Nat → am_N} {fall : Option Nat} (hJ : ∀ t lv st sh M, J t lv st sh M → am_At sc k (tp t) lv st sh M v sh' M') :
    ∀ (es : List am_E) (cs : List (Nat × List Nat)) (pc : Nat) (lv : am_Lv) (st : List am_V) (sh : am_Sh) (M : am_M), am_ckB k tp pc es cs fall = true → am_blk sc (sh'.length, am_sl sh') J (fun v1 s1 M1 => v1 = v ∧ s1 = sh' ∧ M1 = M') fall es lv st sh M → am_At sc k pc lv st sh M v sh' M'
  | [], [], pc, lv, st, sh, M, hc, h => by
    cases fall with
    | none => exact h.elim
    | some t =>
      simp only [am_ckB, decide_eq_true_eq] at hc
      rw [← hc]
      exact hJ t lv st sh M h
  | e :: es, c :: cs, pc, lv, st, sh, M, hc, h => by
    simp only [am_ckB, Bool.and_eq_true, decide_eq_true_eq] at hc
    exact am_step hc.1.1 hc.1.2 (fun lv st sh M hn => am_blk_e hJ es cs (pc + c.1) lv st sh M hc.2 hn) hJ h
  | [], _ :: _, pc, lv, st, sh, M, hc, h => by cases fall <;> simp [am_ckB] at hc
  | _ :: _, [], pc, lv, st, sh, M, hc, h => by cases fall <;> simp [am_ckB] at hc
noncomputable def am_run (sc : Option (Nat × (Nat → Int))) (fin : Nat × Nat) (bs : List am_B) (C : Nat → am_N) (Rt : Option am_V → am_Sh → am_M → Prop) : Nat → Nat → am_N
  | 0, _, _, _, _, _ => False
  | n + 1, b, lv, st, sh, M => (match bs[b]? with
    | none => False
    | some q => am_blk sc fin (fun t => if 1000 ≤ t then C (t - 1000) else am_run sc fin bs C Rt n t) Rt q.2.2 q.2.1 lv st sh M)
/-- from block b of method k with these locals, this stack, this world: it ends with that answer and that world -/
noncomputable def am_R (sc : Option (Nat × (Nat → Int))) (k : Nat) (bs : List am_B) (b : Nat) (lv : am_Lv) (st : List am_V) (sh : am_Sh) (M : am_M) (v : Option am_V) (sh' : am_Sh) (M' : am_M) : Prop := am_At sc k (am_pc bs b) lv st sh M v sh' M'
theorem am_region {sc : Option (Nat × (Nat → Int))} {k : Nat} {bs : List am_B} {cs : List (List (Nat × List Nat))} (hck : am_ck k bs cs = true) {v : Option am_V} {sh' : am_Sh} {M' : am_M} :
    ∀ (n b : Nat) (lv : am_Lv) (st : List am_V) (sh : am_Sh) (M : am_M), am_run sc (sh'.length, am_sl sh') bs (fun t lv st sh M => am_R sc k bs t lv st sh M v sh' M') (fun v1 s1 M1 => v1 = v ∧ s1 = sh' ∧ M1 = M') n b lv st sh M → am_R sc k bs b lv st sh M v sh' M'
  | 0, b, lv, st, sh, M, h => h.elim
  | n + 1, b, lv, st, sh, M, h => by
    unfold am_run at h
    split at h
    · exact h.elim
    · rename_i q hq
      obtain ⟨c, hc⟩ := am_ckL_e bs cs hck b q hq
      have e1 : am_pc bs b = q.1 := by simp [am_pc, List.getD_eq_getElem?_getD, hq]
      unfold am_R
      rw [e1]
      refine am_blk_e (fun t lv st sh M hj => ?_) _ c _ lv st sh M hc h
      unfold am_tp
      split at hj
      · rename_i ht
        rw [if_pos ht]; exact hj
      · rename_i ht
        rw [if_neg ht]; exact am_region hck n t lv st sh M hj
noncomputable def am_argl : List am_V → am_Lv
  | [] => []
  | .inr (.inl x) :: s => some (.inr (.inl x)) :: none :: am_argl s
  | .inl x :: s => some (.inl x) :: am_argl s
  | .inr (.inr x) :: s => some (.inr (.inr x)) :: am_argl s
theorem am_argl_sl (base b : Nat) : ∀ as : List am_V, (lg_sl (as.map (am_cv base b))).length = (am_argl as).length
  | [] => rfl
  | .inl x :: s => by
    have := am_argl_sl base b s
    simp only [lg_sl, List.map_cons, List.flatMap_cons, List.length_append, am_argl, List.length_cons] at this ⊢
    rw [this, if_neg (by simp [am_cv, Value.category])]; simp; omega
  | .inr (.inl x) :: s => by
    have := am_argl_sl base b s
    simp only [lg_sl, List.map_cons, List.flatMap_cons, List.length_append, am_argl, List.length_cons] at this ⊢
    rw [this, if_pos (by simp [am_cv, Value.category])]; simp; omega
  | .inr (.inr x) :: s => by
    have := am_argl_sl base b s
    simp only [lg_sl, List.map_cons, List.flatMap_cons, List.length_append, am_argl, List.length_cons] at this ⊢
    rw [this, if_neg (by cases x <;> simp [am_cv, Value.category])]; simp; omega
theorem am_argl_mem (base b : Nat) : ∀ (as : List am_V) (o i : Nat) (v : am_V), (am_argl as)[i]? = some (some v) → (o + i, am_cv base b v) ∈ lv_args o (as.map (am_cv base b))
  | [], o, i, v, h => by simp [am_argl] at h
  | .inl x :: s, o, 0, v, h => by simp [am_argl] at h; subst h; simp [lv_args]
  | .inl x :: s, o, i + 1, v, h => by
    have := am_argl_mem base b s (o + 1) i v (by simpa [am_argl] using h)
    simp only [List.map_cons, lv_args]
    rw [if_neg (by simp [am_cv, Value.category])]
    rw [show o + (i + 1) = o + 1 + i by omega]
    exact List.mem_cons_of_mem _ this
  | .inr (.inr x) :: s, o, 0, v, h => by simp [am_argl] at h; subst h; simp [lv_args]
  | .inr (.inr x) :: s, o, i + 1, v, h => by
    have := am_argl_mem base b s (o + 1) i v (by simpa [am_argl] using h)
    simp only [List.map_cons, lv_args]
    rw [if_neg (by cases x <;> simp [am_cv, Value.category])]
    rw [show o + (i + 1) = o + 1 + i by omega]
    exact List.mem_cons_of_mem _ this
  | .inr (.inl x) :: s, o, 0, v, h => by simp [am_argl] at h; subst h; simp [lv_args]
  | .inr (.inl x) :: s, o, 1, v, h => by simp [am_argl] at h
  | .inr (.inl x) :: s, o, i + 2, v, h => by
    have := am_argl_mem base b s (o + 2) i v (by simpa [am_argl] using h)
    simp only [List.map_cons, lv_args]
    rw [if_pos (by simp [am_cv, Value.category])]
    rw [show o + (i + 2) = o + 2 + i by omega]
    exact List.mem_cons_of_mem _ this
noncomputable def am_ent (n : Nat) (as : List am_V) : am_Lv := am_argl as ++ List.replicate (n - (am_argl as).length) none
theorem am_enter {k n : Nat} {bs : List am_B} {as : List am_V} {sh sh' : am_Sh} {M M' : am_M} {v : Option am_V} (hp : plainName (am_y k).cls = true) (hn : am_ml k = n) (hb : am_pc bs 0 = 0) (hl : (am_argl as).length ≤ n) (hg : sh.length ≤ sh'.length ∧ am_sl sh ≤ am_sl sh')
    (h : am_R none k bs 0 (am_ent n as) [] sh M v sh' M') : am_Calls k as sh M v sh' M' := by
  intro l D ca base b
  subst hn
  refine Met.ofW (cc := am_cc k) (maxL := am_ml k) (ret := am_rt k) hp rfl ?_
  intro p e s m args below meth c s₁ B hml hv
  obtain ⟨rfl, hsz, hP, hK⟩ := hv
  have hts := atoms_spec (ws := am_tb k) B.pre
  have hent : (lg_sl (as.map (am_cv base b))).length ≤ am_ml k := by rw [am_argl_sl]; exact hl
  have hlv := lv_entry (as.map (am_cv base b)) (n := am_ml k) hent
  rw [lg_entry_eq]
  have hlen : (am_ent (am_ml k) as).length = am_ml k := by simp [am_ent]; omega
  have hlv2 : lv_has _ (am_ml k) (am_lvl base b (am_ent (am_ml k) as)) := lv_has_sub hlv (fun q hq => by
    obtain ⟨w, hw, e⟩ := am_lvl_mem.mp hq
    obtain ⟨i, z⟩ := q
    dsimp only at hw e
    subst e
    unfold am_ent at hw
    rw [List.getElem?_append] at hw
    split at hw
    · have := am_argl_mem base b as 0 i w hw
      rw [Nat.zero_add] at this
      exact this
    · rw [List.getElem?_replicate] at hw
      split at hw <;> cases hw)
  have h2 := h
  unfold am_R at h2
  rw [hb] at h2
  have e1 : sh.length - sh.length = 0 := Nat.sub_self _
  have e2 : am_sl sh - am_sl sh = 0 := Nat.sub_self _
  have h3 := h2 (p := p) (l := l) (e := e) (R := (headSpec (am_tb k) (am_rm k sh sh')).room) (s := s) (m := m) (args := (as.map (am_cv base b)).toArray) (below := below) (meth := meth) (c := c) (D := D) (ca := ca) (base := base) (b := b) (n0 := sh.length) (sl0 := am_sl sh) (H := s.heap) (locs := [])
    (Q := MQ below (fun _ st o t => o = .returned (v.map (am_cv base b)) ∧ (t.heap.size = base + sh'.length ∧ va_P D vwCl (am_ws base ca sh' M') t.heap) ∧ va_F (fun q => base ≤ q) st t) (as.map (am_cv base b)).toArray s (sh'.length - sh.length) (am_sl sh' - am_sl sh) (fun q => base ≤ q))
    ⟨B.exec, B.bytes, B.returns, hml, findClass_of_methodNamed B.named, fun w hw => hts w (List.mem_cons_of_mem _ hw), B.notSynchronized, (name_of_methodNamed B.named B.method).1, Nat.le_refl _, Nat.le_refl _, hK, hsz, by show sh'.length ≤ sh.length + (sh'.length - sh.length); omega, by show am_sl sh' ≤ am_sl sh + (am_sl sh' - am_sl sh); omega, fun _ h => by cases h⟩
    ⟨hlv2, hlen, hsz, hP, va_S.rf, Nat.le_refl _, Nat.le_refl _, hg.1, hg.2⟩ ?_
  · rw [e1, e2] at h3
    exact h3
  · intro pc H locs ls lv hr hS
    have hq : ∀ t : State, t.heap = H → (t.heap.size = base + sh'.length ∧ va_P D vwCl (am_ws base ca sh' M') t.heap) ∧ va_F (fun q => base ≤ q) s t := fun t ht => ⟨⟨by rw [ht]; exact hS.2.2.1, by rw [ht]; exact hS.2.2.2.1⟩, hS.2.2.2.2.1.F ht⟩
    have hlocks := B.notSynchronized
    rcases hr with ⟨x, rfl, hd, hrt⟩ | ⟨x, rfl, hd, hrt⟩ | ⟨rfl, hd, hrt⟩
    · rcases hrt with hrt | ⟨hrt, hx⟩
      · exact W.iret B.exec B.bytes (B.returns.trans hrt) (fun t ht _ => ⟨rfl, hq t ht⟩) (fun q hq => hS.2.2.2.2.1.2.2 q hq) hd hlocks
      · exact W.zret B.exec B.bytes (B.returns.trans hrt) (by rcases hx with rfl | rfl <;> rfl) (fun t ht _ => ⟨rfl, hq t ht⟩) (fun q hq => hS.2.2.2.2.1.2.2 q hq) hd hlocks
    · exact W.lret B.exec B.bytes (B.returns.trans hrt) (fun t ht _ => ⟨rfl, hq t ht⟩) (fun q hq => hS.2.2.2.2.1.2.2 q hq) hd hlocks
    · exact W.vret B.exec B.bytes (B.returns.trans hrt) (fun t ht _ => ⟨rfl, hq t ht⟩) (fun q hq => hS.2.2.2.2.1.2.2 q hq) hd hlocks
