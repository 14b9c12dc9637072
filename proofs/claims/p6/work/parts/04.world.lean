/-! The worlds by number: cell number a lies at address base + a; its whole numbers are M a j; which class, how long, what it refers to: sh. -/
noncomputable abbrev am_V : Type := Int ⊕ (Int ⊕ Option Nat)
noncomputable abbrev am_M : Type := Nat → Nat → Int
noncomputable abbrev am_S : Type := Nat × Nat × List (Option Nat)
noncomputable abbrev am_Sh : Type := List am_S
noncomputable abbrev am_Lv : Type := List (Option am_V)
noncomputable def am_cv (base b : Nat) : am_V → Value
  | .inl x => .int (Int32.ofInt x)
  | .inr (.inl x) => .long (Int64.ofInt x)
  | .inr (.inr (some k)) => .ref (base + k)
  | .inr (.inr none) => .ref b
noncomputable def am_fkD (d : String) : Nat := if d = "I" then 0 else if d = "J" then 1 else if d = "Z" then 3 else 2
noncomputable def am_fk (ci k : Nat) : Nat := match vwCl[ci]? with
  | some q => am_fkD (q.2.1 k).2.2.1
  | none => 0
noncomputable def am_fv (base fk : Nat) (rs : List (Option Nat)) (x : Int) (k : Nat) : Value := if fk = 1 then .long (Int64.ofInt x) else if fk = 2 then va_rf ((rs.getD k none).map (base + ·)) else .int (Int32.ofInt x)
noncomputable def am_fs (base : Nat) (M : am_M) (a : Nat) (q : am_S) : List Value := (List.range q.2.1).map fun k => am_fv base (am_fk q.1 k) q.2.2 (M a k) k
noncomputable abbrev am_Ca : Type := ClassId × ClassId × ClassId
noncomputable def am_cell (base : Nat) (ca : am_Ca) (M : am_M) (a : Nat) (q : am_S) : va_E :=
  if q.1 < 10 then .inr (q.1, am_fs base M a q)
  else if q.1 = 10 then .inl (ca.1, q.2.1, .inl fun j => Int32.ofInt (M a j))
  else if q.1 = 11 then .inl (ca.2.1, q.2.1, .inr (.inl fun j => Int64.ofInt (M a j)))
  else .inl (ca.2.2, q.2.1, .inr (.inr (.inr (.inr fun j => (q.2.2.getD j none).map (base + ·)))))
noncomputable def am_ws (base : Nat) (ca : am_Ca) (sh : am_Sh) (M : am_M) : va_W := sh.mapIdx fun a q => (base + a, am_cell base ca M a q)
noncomputable def am_ty (ca : am_Ca) : List (ClassId × FieldType) := [(ca.1, .int), (ca.2.1, .long), (ca.2.2, .object "PaceBorder$Days")]
noncomputable def am_sl (sh : am_Sh) : Nat := (sh.map fun q => q.2.1).sum
/-- one number of one cell anew -/
noncomputable def am_up (M : am_M) (a j : Nat) (x : Int) : am_M := fun a' => if a' = a then (fun j' => if j' = j then x else M a' j') else M a'
/-- a cell's numbers anew -/
noncomputable def am_row (M : am_M) (a : Nat) (f : Nat → Int) : am_M := fun a' => if a' = a then f else M a'
theorem am_ws_get {base : Nat} {ca : am_Ca} {sh : am_Sh} {M : am_M} {a : Nat} {q : am_S} (h : sh[a]? = some q) : (am_ws base ca sh M)[a]? = some (base + a, am_cell base ca M a q) := by
  simp [am_ws, h]
theorem am_ws_of {base : Nat} {ca : am_Ca} {sh : am_Sh} {M : am_M} {a : Nat} {x : Nat × va_E} (h : (am_ws base ca sh M)[a]? = some x) : ∃ q, sh[a]? = some q ∧ x = (base + a, am_cell base ca M a q) := by
  simp [am_ws] at h
  obtain ⟨x1, x2, x3, h1, h2⟩ := h
  exact ⟨_, h1, h2.symm⟩
theorem am_D (base : Nat) (ca : am_Ca) (sh : am_Sh) (M : am_M) : va_D (fun q => base ≤ q) (am_ws base ca sh M) := by
  refine ⟨fun i j p q hp hq hpq => ?_, fun k q hk => ?_⟩
  · obtain ⟨_, _, rfl⟩ := am_ws_of hp
    obtain ⟨_, _, rfl⟩ := am_ws_of hq
    simp at hpq; exact hpq
  · obtain ⟨_, _, rfl⟩ := am_ws_of hk
    simp
theorem am_ws_set {base : Nat} {ca : am_Ca} {sh sh' : am_Sh} {M M' : am_M} {a : Nat} {q q' : am_S} {e : va_E} (h : sh[a]? = some q) (hs : sh' = sh.set a q') (he : e = am_cell base ca M' a q') (hM : ∀ a', a' ≠ a → M' a' = M a') : (am_ws base ca sh M).set a (base + a, e) = am_ws base ca sh' M' := by
  subst hs; subst he
  have hl : a < sh.length := (List.getElem?_eq_some_iff.mp h).1
  apply List.ext_getElem?
  intro i
  by_cases hi : i = a
  · subst hi
    rw [am_ws_get (q := q') (by simp [hl])]
    rw [List.getElem?_set_self (by simpa [am_ws] using hl)]
  · rw [List.getElem?_set_ne (fun h => hi h.symm)]
    simp only [am_ws, List.getElem?_mapIdx]
    rw [List.getElem?_set_ne (fun h => hi h.symm)]
    cases sh[i]? with
    | none => rfl
    | some q1 =>
      simp only [Option.map_some]
      congr 2
      simp only [am_cell, am_fs, hM i hi]
theorem am_ws_setM {base : Nat} {ca : am_Ca} {sh : am_Sh} {M M' : am_M} {a : Nat} {q : am_S} {e : va_E} (h : sh[a]? = some q) (he : e = am_cell base ca M' a q) (hM : ∀ a', a' ≠ a → M' a' = M a') : (am_ws base ca sh M).set a (base + a, e) = am_ws base ca sh M' :=
  am_ws_set h (by
    apply List.ext_getElem?
    intro i
    by_cases hi : i = a
    · subst hi
      rw [List.getElem?_set_self (List.getElem?_eq_some_iff.mp h).1, h]
    · rw [List.getElem?_set_ne (fun h => hi h.symm)]) he hM
theorem am_ws_push {base : Nat} {ca : am_Ca} {sh : am_Sh} {M M' : am_M} {q : am_S} {e : va_E} (he : e = am_cell base ca M' sh.length q) (hM : ∀ a', a' < sh.length → M' a' = M a') : am_ws base ca sh M ++ [(base + sh.length, e)] = am_ws base ca (sh ++ [q]) M' := by
  subst he
  apply List.ext_getElem?
  intro i
  simp only [am_ws, List.getElem?_mapIdx, List.getElem?_append, List.length_mapIdx]
  by_cases hi : i < sh.length
  · simp only [hi, if_true]
    cases h : sh[i]? with
    | none => rfl
    | some q1 =>
      simp only [Option.map_some]
      congr 2
      simp only [am_cell, am_fs, hM i hi]
  · simp only [hi, if_false]
    by_cases he : i = sh.length
    · subst he; simp
    · have : 1 ≤ i - sh.length := by omega
      rw [List.getElem?_eq_none (by simpa using this), List.getElem?_eq_none (by simpa using this)]; rfl
theorem am_up_ne {M : am_M} {a j : Nat} {x : Int} {a' : Nat} (h : a' ≠ a) : am_up M a j x a' = M a' := by simp [am_up, h]
theorem am_row_ne {M : am_M} {a : Nat} {f : Nat → Int} {a' : Nat} (h : a' ≠ a) : am_row M a f a' = M a' := by simp [am_row, h]
/-- the words that a method carries: those that hold on over its run -/
noncomputable def lw_g : List Cond := lw_tbl.filter goodWord
theorem lw_g_good : ∀ w ∈ lw_g, goodWord w = true := fun w h => (List.mem_filter.mp h).2
theorem lw_g_of {ws : List Cond} (h : ∀ w ∈ ws, w ∈ lw_tbl) (hg : ws.all goodWord = true) : ∀ w ∈ ws, w ∈ lw_g := fun w hw => List.mem_filter.mpr ⟨h w hw, List.all_eq_true.mp hg w hw⟩
/-- classes: of each its fields' words, types, names -/
noncomputable def am_cok (ci : Nat) : Prop := ∀ q, vwCl[ci]? = some q → (∀ w ∈ u_ws q.1 q.2.1 q.2.2, w ∈ lw_g) ∧ (∃ ty : Nat → FieldType, ∀ k, k < q.2.2 → parseFieldDescriptor (q.2.1 k).2.2.1 = some (ty k)) ∧ (∀ a, a < q.2.2 → ∀ b, b < q.2.2 → a ≠ b → (q.2.1 a).2.1 ≠ (q.2.1 b).2.1)
theorem am_cls : ∀ ci, am_cok ci
  | 0 => fun q h => by cases h; exact ⟨lw_g_of inX0 (by decide +kernel), ⟨tyX0, tyX0_ok⟩, nmX0⟩
  | 1 => fun q h => by cases h; exact ⟨lw_g_of inX1 (by decide +kernel), ⟨tyX1, tyX1_ok⟩, nmX1⟩
  | 2 => fun q h => by cases h; exact ⟨lw_g_of inX2 (by decide +kernel), ⟨tyX2, tyX2_ok⟩, nmX2⟩
  | 3 => fun q h => by cases h; exact ⟨lw_g_of inX3 (by decide +kernel), ⟨tyX3, tyX3_ok⟩, nmX3⟩
  | 4 => fun q h => by cases h; exact ⟨lw_g_of inX4 (by decide +kernel), ⟨tyX4, tyX4_ok⟩, nmX4⟩
  | 5 => fun q h => by cases h; exact ⟨lw_g_of inX5 (by decide +kernel), ⟨tyX5, tyX5_ok⟩, nmX5⟩
  | 6 => fun q h => by cases h; exact ⟨lw_g_of inX6 (by decide +kernel), ⟨tyX6, tyX6_ok⟩, nmX6⟩
  | 7 => fun q h => by cases h; exact ⟨lw_g_of inX7 (by decide +kernel), ⟨tyX7, tyX7_ok⟩, nmX7⟩
  | 8 => fun q h => by cases h; exact ⟨lw_g_of inX8 (by decide +kernel), ⟨tyX8, tyX8_ok⟩, nmX8⟩
  | 9 => fun q h => by cases h; exact ⟨lw_g_of inX9 (by decide +kernel), ⟨tyX9, tyX9_ok⟩, nmX9⟩
  | _ + 10 => fun q h => by simp [vwCl] at h
/-- a field's type by its kind -/
noncomputable def am_tyk (fk : Nat) (ty : FieldType) : Bool := match ty with
  | .int => fk == 0
  | .long => fk == 1
  | .boolean => fk == 3
  | .object _ => fk == 2
  | .array _ => fk == 2
  | _ => false
theorem am_tyok : vwCl.all (fun q => (List.range q.2.2).all fun k => match parseFieldDescriptor (q.2.1 k).2.2.1 with
  | some ty => am_tyk (am_fkD (q.2.1 k).2.2.1) ty
  | none => false) = true := by decide +kernel
theorem am_tyk_of {ci k : Nat} {q : vw_C} (h : vwCl[ci]? = some q) (hk : k < q.2.2) : ∃ ty, parseFieldDescriptor (q.2.1 k).2.2.1 = some ty ∧ am_tyk (am_fk ci k) ty = true := by
  have h1 := List.all_eq_true.mp am_tyok q (List.mem_of_getElem? h)
  have h2 := List.all_eq_true.mp h1 k (List.mem_range.mpr hk)
  simp only [am_fk, h]
  cases hp : parseFieldDescriptor (q.2.1 k).2.2.1 with
  | none => rw [hp] at h2; cases h2
  | some ty => rw [hp] at h2; exact ⟨ty, rfl, h2⟩
/-- locals -/
noncomputable def am_lvl (base b : Nat) (lv : am_Lv) : List (Nat × Value) := (List.range lv.length).filterMap fun i => (lv[i]?.join).map fun v => (i, am_cv base b v)
theorem am_lvl_mem {base b : Nat} {lv : am_Lv} {q : Nat × Value} : q ∈ am_lvl base b lv ↔ ∃ v, lv[q.1]? = some (some v) ∧ q.2 = am_cv base b v := by
  obtain ⟨i, w⟩ := q
  simp only [am_lvl, List.mem_filterMap, List.mem_range, Option.map_eq_some_iff, Prod.mk.injEq]
  constructor
  · rintro ⟨j, hj, v, hv, rfl, rfl⟩
    refine ⟨v, ?_, rfl⟩
    cases h : lv[j]? with
    | none => rw [h] at hv; cases hv
    | some o => rw [h] at hv; simp at hv; rw [hv]
  · rintro ⟨v, hv, rfl⟩
    exact ⟨i, (List.getElem?_eq_some_iff.mp hv).1, v, by rw [hv]; rfl, rfl, rfl⟩
noncomputable def am_kill (lv : am_Lv) (i : Nat) : am_Lv := match i with
  | 0 => lv
  | j + 1 => match lv[j]? with
    | some (some (.inr (.inl _))) => lv.set j none
    | _ => lv
noncomputable def am_set (lv : am_Lv) (i : Nat) (v : am_V) : am_Lv := (am_kill lv i).set i (some v)
noncomputable def am_setL (lv : am_Lv) (i : Nat) (v : am_V) : am_Lv := ((am_kill lv i).set (i + 1) none).set i (some v)
theorem am_kill_len (lv : am_Lv) (i : Nat) : (am_kill lv i).length = lv.length := by
  unfold am_kill; split
  · rfl
  · split <;> simp
theorem am_set_len (lv : am_Lv) (i : Nat) (v : am_V) : (am_set lv i v).length = lv.length := by simp [am_set, am_kill_len]
theorem am_setL_len (lv : am_Lv) (i : Nat) (v : am_V) : (am_setL lv i v).length = lv.length := by simp [am_setL, am_kill_len]
theorem am_kill_get {lv : am_Lv} {i j : Nat} {v : am_V} (h : (am_kill lv i)[j]? = some (some v)) : lv[j]? = some (some v) ∧ (j + 1 = i → ∀ x, v ≠ .inr (.inl x)) := by
  unfold am_kill at h
  split at h
  · exact ⟨h, fun h => by omega⟩
  · rename_i k
    split at h
    · rename_i x hx
      by_cases hj : j = k
      · subst hj
        rw [List.getElem?_set_self (List.getElem?_eq_some_iff.mp hx).1] at h
        cases h
      · rw [List.getElem?_set_ne (fun h => hj h.symm)] at h
        exact ⟨h, fun e => by omega⟩
    · rename_i hx
      refine ⟨h, fun e x hv => ?_⟩
      have : j = k := by omega
      subst this; subst hv
      exact hx x h
theorem am_cat2 {base b : Nat} {v : am_V} (h : (am_cv base b v).category = 2) : ∃ x, v = .inr (.inl x) := by
  rcases v with x | x | (_ | k)
  · cases h
  · exact ⟨x, rfl⟩
  · cases h
  · cases h
theorem lv_has_sub {ls : Array Slot} {n : Nat} {l l' : List (Nat × Value)} (h : lv_has ls n l) (hs : ∀ q ∈ l', q ∈ l) : lv_has ls n l' := ⟨h.1, h.2.1, fun q hq => h.2.2 q (hs q hq)⟩
theorem am_set_sub {base b : Nat} {lv : am_Lv} {i : Nat} {v : am_V} : ∀ q ∈ am_lvl base b (am_set lv i v), q ∈ (i, am_cv base b v) :: (am_lvl base b lv).filter (fun q => !(q.1 == i) && !(q.1 + 1 == i && q.2.category == 2)) := by
  intro q hq
  obtain ⟨w, hw, e⟩ := am_lvl_mem.mp hq
  obtain ⟨j, z⟩ := q
  dsimp only at hw e
  subst e
  by_cases hj : j = i
  · subst hj
    unfold am_set at hw
    rw [List.getElem?_set_self (by have := (List.getElem?_eq_some_iff.mp hw).1; simpa using this)] at hw
    cases hw
    exact List.mem_cons_self
  · unfold am_set at hw
    rw [List.getElem?_set_ne (fun h => hj h.symm)] at hw
    obtain ⟨h1, h2⟩ := am_kill_get hw
    refine List.mem_cons_of_mem _ (List.mem_filter.mpr ⟨am_lvl_mem.mpr ⟨w, h1, rfl⟩, ?_⟩)
    simp only [beq_iff_eq, Bool.and_eq_true, Bool.not_eq_true', beq_eq_false_iff_ne, ne_eq, Bool.and_eq_false_iff]
    refine ⟨hj, ?_⟩
    by_cases hji : j + 1 = i
    · right
      intro hc
      obtain ⟨x, rfl⟩ := am_cat2 hc
      exact h2 hji x rfl
    · exact Or.inl hji
theorem am_setL_sub {base b : Nat} {lv : am_Lv} {i : Nat} {v : am_V} : ∀ q ∈ am_lvl base b (am_setL lv i v), q ∈ (i, am_cv base b v) :: (am_lvl base b lv).filter (fun q => !(q.1 == i) && (!(q.1 == i + 1) && !(q.1 + 1 == i && q.2.category == 2))) := by
  intro q hq
  obtain ⟨w, hw, e⟩ := am_lvl_mem.mp hq
  obtain ⟨j, z⟩ := q
  dsimp only at hw e
  subst e
  by_cases hj : j = i
  · subst hj
    unfold am_setL at hw
    rw [List.getElem?_set_self (by have := (List.getElem?_eq_some_iff.mp hw).1; simpa using this)] at hw
    cases hw
    exact List.mem_cons_self
  · unfold am_setL at hw
    rw [List.getElem?_set_ne (fun h => hj h.symm)] at hw
    by_cases hj1 : j = i + 1
    · subst hj1
      have hlt : i + 1 < (am_kill lv i).length := by have := (List.getElem?_eq_some_iff.mp hw).1; simpa using this
      rw [List.getElem?_set_self hlt] at hw
      cases hw
    · rw [List.getElem?_set_ne (fun h => hj1 h.symm)] at hw
      obtain ⟨h1, h2⟩ := am_kill_get hw
      refine List.mem_cons_of_mem _ (List.mem_filter.mpr ⟨am_lvl_mem.mpr ⟨w, h1, rfl⟩, ?_⟩)
      simp only [beq_iff_eq, Bool.and_eq_true, Bool.not_eq_true', beq_eq_false_iff_ne, ne_eq, Bool.and_eq_false_iff]
      refine ⟨hj, hj1, ?_⟩
      by_cases hji : j + 1 = i
      · right
        intro hc
        obtain ⟨x, rfl⟩ := am_cat2 hc
        exact h2 hji x rfl
      · exact Or.inl hji
