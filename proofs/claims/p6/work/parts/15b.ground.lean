/-! The land's own arithmetic, and that the class's functions of it answer so. -/
noncomputable def crs (b mv : Int) : Int := if mv < 0 then b - 1 else b
noncomputable def rud (s : Int) (kd : Nat → Int) (b mv day : Int) : Int :=
  if mv = 0 then 0 else if crs b mv < 0 ∨ s ≤ crs b mv then -1 else if kd (crs b mv).toNat = 3 ∧ day % 2 ≠ 0 then -1 else if kd (crs b mv).toNat = 2 ∨ kd (crs b mv).toNat = 5 then 2 else 1
noncomputable def cmp_ (x y : Int) : Int := if x < y then -1 else if x = y then 0 else 1
noncomputable def gap_ (x y : Int) : Int := if x < y then y - x else x - y
/-- where the border is behind a day on which x and y are said -/
noncomputable def aft (s : Int) (kd : Nat → Int) (b day x y : Int) : Int := if rud s kd b (cmp_ y x) day = -1 ∨ gap_ x y < rud s kd b (cmp_ y x) day then b else b + cmp_ y x
noncomputable def crw (i b : Int) : Int := if i < b then 0 else 1
noncomputable def due (kd du : Nat → Int) (c i b rate : Int) : Int :=
  if kd i.toNat = 5 then (if b = i ∨ b = i + 1 then (du i.toNat * rate).tdiv 2 else 0) else if crw i b ≠ c then 0 else if kd i.toNat = 4 then 2 * (du i.toNat * rate) else if kd i.toNat = 1 then du i.toNat * rate else 0
theorem rud_r (s : Int) (kd : Nat → Int) (b mv day : Int) : -1 ≤ rud s kd b mv day ∧ rud s kd b mv day ≤ 2 := by
  unfold rud; repeat' split
  all_goals omega
theorem aft_r {s : Int} {kd : Nat → Int} {b day x y : Int} (hb : 0 ≤ b ∧ b ≤ s) : 0 ≤ aft s kd b day x y ∧ aft s kd b day x y ≤ s := by
  unfold aft
  split
  · exact hb
  · rename_i h
    have h1 : rud s kd b (cmp_ y x) day ≠ -1 := fun e => h (Or.inl e)
    have hc : cmp_ y x = -1 ∨ cmp_ y x = 0 ∨ cmp_ y x = 1 := by unfold cmp_; split <;> (try split) <;> omega
    unfold rud at h1
    split at h1
    · omega
    · split at h1
      · omega
      · rename_i h2
        unfold crs at h2
        split at h2 <;> omega
theorem mul9 {x y : Int} (hx : 0 ≤ x ∧ x ≤ 9) (hy : 0 ≤ y ∧ y ≤ 9) : 0 ≤ x * y ∧ x * y ≤ 81 := by
  refine ⟨Int.mul_nonneg hx.1 hy.1, ?_⟩
  have h1 : x * y ≤ 9 * y := Int.mul_le_mul_of_nonneg_right hx.2 hy.1
  omega
theorem due_r {kd du : Nat → Int} (hd : ∀ i, 0 ≤ du i ∧ du i ≤ 9) {c i b rate : Int} (hr : 0 ≤ rate ∧ rate ≤ 9) : 0 ≤ due kd du c i b rate ∧ due kd du c i b rate ≤ 162 := by
  have h1 := mul9 (hd i.toNat) hr
  have h2 : (du i.toNat * rate).tdiv 2 = (du i.toNat * rate) / 2 := Int.tdiv_eq_ediv_of_nonneg h1.1
  unfold due
  rw [h2]
  repeat' split
  all_goals omega
theorem tm2 {d : Int} (h : 0 ≤ d) : d.tmod 2 = d % 2 := Int.tmod_eq_emod_of_nonneg h
theorem sp_compare (x y : Int) (M : am_M) (hx : iR x) (hy : iR y) : X_J6_compare_7cf53 x y M = some (cmp_ x y, M) := by
  simp only [X_J6_compare_7cf53, wI_R hx, wI_R hy, cmp_]
  split
  · rfl
  · split <;> rfl
theorem sp_crownOf (i b : Int) (M : am_M) (hi : iR i) (hb : iR b) : X_X2_crownOf i b M = some (crw i b, M) := by
  simp only [X_X2_crownOf, wI_R hi, wI_R hb, crw]
  split <;> rfl
theorem sp_touches (i b : Int) (M : am_M) (hi : iR i) (hb : iR b) (hi2 : iR (i + 1)) : X_X2_touches i b M = some (b2 (b = i ∨ b = i + 1), M) := by
  simp only [X_X2_touches, wI_R hi, wI_R hb, wI_R hi2]
  split
  · rw [b2_t (by omega)]
  · split
    · rw [b2_t (by omega)]
    · rw [b2_f (by omega)]
/-- the strips at 11 -/
noncomputable def Gd11 (M : am_M) : Prop := 0 ≤ M 11 0 ∧ M 11 0 ≤ 12 ∧ (∀ i, 0 ≤ M 12 i ∧ M 12 i ≤ 5) ∧ ∀ i, 0 ≤ M 13 i ∧ M 13 i ≤ 9
theorem sp_has_11 {M : am_M} (h : Gd11 M) {i : Int} (hi : iR i) : X_X2_has_11 i M = some (b2 (0 ≤ i ∧ i < M 11 0), M) := by
  obtain ⟨h1, h2, -, -⟩ := h
  simp (disch := omega) only [X_X2_has_11, wI_R hi, wI_of (x := M 11 0)]
  split
  · rw [b2_f (by omega)]
  · split
    · rw [b2_t (by omega)]
    · rw [b2_f (by omega)]
theorem sp_rudeness_11 {M : am_M} (h : Gd11 M) {b mv day : Int} (hb : 0 ≤ b ∧ b ≤ M 11 0) (hm : -1 ≤ mv ∧ mv ≤ 1) (hd : 0 ≤ day ∧ day < 1000) : X_X2_rudeness_11 b mv day M = some (rud (M 11 0) (M 12) b mv day, M) := by
  obtain ⟨h1, h2, h3, -⟩ := h
  have hk : ∀ i, wI (M 12 i) = M 12 i := fun i => wI_of (by have := h3 i; omega) (by have := h3 i; omega)
  have ht : wI (day.tmod 2) = day % 2 := by rw [tm2 hd.1]; exact wI_of (by omega) (by omega)
  unfold rud crs
  rcases (show mv = -1 ∨ mv = 0 ∨ mv = 1 by omega) with rfl | rfl | rfl
  · simp only [X_X2_rudeness_11, show wI (-1) = -1 from rfl, show ¬ ((-1 : Int) = 0) by decide, show (-1 : Int) < 0 by decide, if_true, if_false, wI_of (x := b - 1) (by omega) (by omega), wI_of (x := M 11 0) (by omega) (by omega), wI_of (x := day) (by omega) (by omega), hk, ht]
    repeat' split
    all_goals first | rfl | (exfalso; omega) | simp_all
  · simp only [X_X2_rudeness_11, show wI 0 = 0 from rfl, if_true]
  · simp only [X_X2_rudeness_11, show wI 1 = 1 from rfl, show ¬ ((1 : Int) = 0) by decide, show ¬ (1 : Int) < 0 by decide, if_true, if_false, wI_of (x := b) (by omega) (by omega), wI_of (x := M 11 0) (by omega) (by omega), wI_of (x := day) (by omega) (by omega), hk, ht]
    repeat' split
    all_goals first | rfl | (exfalso; omega) | simp_all
theorem sp_borderAfter_11 {M : am_M} (h : Gd11 M) {b day x y : Int} (hb : 0 ≤ b ∧ b ≤ M 11 0) (hd : 0 ≤ day ∧ day < 1000) (hx : 0 ≤ x ∧ x ≤ 3) (hy : 0 ≤ y ∧ y ≤ 3) : X_X2_borderAfter_11 b day x y M = some (aft (M 11 0) (M 12) b day x y, M) := by
  have hc : -1 ≤ cmp_ y x ∧ cmp_ y x ≤ 1 := by unfold cmp_; repeat' split
                                               all_goals omega
  have hr := rud_r (M 11 0) (M 12) b (cmp_ y x) day
  have hg : (if 0 ≤ wI (x - y) then x - y else 0 - (x - y)) = gap_ x y := by
    rw [wI_of (by omega) (by omega)]
    unfold gap_
    split <;> split <;> omega
  have hgr : 0 ≤ gap_ x y ∧ gap_ x y ≤ 3 := by unfold gap_; split <;> omega
  simp only [X_X2_borderAfter_11, sp_compare y x M (by unfold iR; omega) (by unfold iR; omega), ob, sp_rudeness_11 h hb hc hd, hg, wI_of (x := rud (M 11 0) (M 12) b (cmp_ y x) day) (by omega) (by omega), wI_of (x := gap_ x y) (by omega) (by omega), aft]
  by_cases c1 : rud (M 11 0) (M 12) b (cmp_ y x) day = -1
  · rw [if_pos c1, if_pos (Or.inl c1)]
  · rw [if_neg c1]
    by_cases c2 : gap_ x y < rud (M 11 0) (M 12) b (cmp_ y x) day
    · rw [if_pos c2, if_pos (Or.inr c2)]
    · rw [if_neg c2, if_neg (by omega)]
theorem sp_kindOf_11 {M : am_M} (h : Gd11 M) {i : Int} (hi : iR i) : X_X2_kindOf_11 i M = some (if 0 ≤ i ∧ i < M 11 0 then M 12 i.toNat else 0, M) := by
  have h2 := h.2.1
  by_cases c : 0 ≤ i ∧ i < M 11 0
  · simp only [X_X2_kindOf_11, sp_has_11 h hi, b2_t c, ob, show wI 1 = 1 from rfl, show ¬ ((1 : Int) = 0) by decide, if_false, wI_R hi, if_pos c]
    rw [if_pos (by omega)]
  · simp only [X_X2_kindOf_11, sp_has_11 h hi, b2_f c, ob, show wI 0 = 0 from rfl, if_true, if_neg c]
theorem sp_dueOf_11 {M : am_M} (h : Gd11 M) {i : Int} (hi : iR i) : X_X2_dueOf_11 i M = some (if 0 ≤ i ∧ i < M 11 0 then M 13 i.toNat else 0, M) := by
  have h2 := h.2.1
  by_cases c : 0 ≤ i ∧ i < M 11 0
  · simp only [X_X2_dueOf_11, sp_has_11 h hi, b2_t c, ob, show wI 1 = 1 from rfl, show ¬ ((1 : Int) = 0) by decide, if_false, wI_R hi, if_pos c]
    rw [if_pos (by omega)]
  · simp only [X_X2_dueOf_11, sp_has_11 h hi, b2_f c, ob, show wI 0 = 0 from rfl, if_true, if_neg c]
theorem sp_dueTo_11 {M : am_M} (h : Gd11 M) {c i b rate : Int} (hc : 0 ≤ c ∧ c ≤ 1) (hi : 0 ≤ i ∧ i < M 11 0) (hb : 0 ≤ b ∧ b ≤ 12) (hr : 0 ≤ rate ∧ rate ≤ 9) : X_X2_dueTo_11 c i b rate M = some (due (M 12) (M 13) c i b rate, M) := by
  obtain ⟨h1, h2, h3, h4⟩ := id h
  have hiR : iR i := by unfold iR; omega
  have hk := h3 i.toNat
  have hm := mul9 (h4 i.toNat) hr
  have hcr : 0 ≤ crw i b ∧ crw i b ≤ 1 := by unfold crw; split <;> omega
  simp only [X_X2_dueTo_11, sp_kindOf_11 h hiR, sp_dueOf_11 h hiR, if_pos hi, ob, sp_touches i b M hiR (by unfold iR; omega) (by unfold iR; omega), sp_crownOf i b M hiR (by unfold iR; omega), b2_w, b2_0, wI_of (x := M 12 i.toNat) (by omega) (by omega), wI_of (x := M 13 i.toNat * rate) (by omega) (by omega), wI_of (x := crw i b) (by omega) (by omega), wI_of (x := c) (by omega) (by omega), due, ite_not']
  by_cases k5 : M 12 i.toNat = 5
  · simp only [if_pos k5]
    split <;> rfl
  · simp only [if_neg k5]
    by_cases kc : crw i b = c
    · simp only [if_pos kc, ne_eq, kc, not_true_eq_false, if_false]
      repeat' split
      all_goals rfl
    · simp only [ne_eq, kc, not_false_eq_true, if_true, if_false]
