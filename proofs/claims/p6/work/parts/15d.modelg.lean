/-! The reference's arithmetic of the land. -/
theorem rud_c {s : Int} {kd kd' : Nat → Int} (h : ∀ i : Nat, (i : Int) < s → kd' i = kd i) (b mv day : Int) : rud s kd' b mv day = rud s kd b mv day := by
  unfold rud
  split
  · rfl
  · split
    · rfl
    · rename_i h2
      rw [h _ (by omega)]
theorem aft_c {s : Int} {kd kd' : Nat → Int} (h : ∀ i : Nat, (i : Int) < s → kd' i = kd i) (b day x y : Int) : aft s kd' b day x y = aft s kd b day x y := by
  unfold aft; rw [rud_c h]
theorem due_c {kd kd' du du' : Nat → Int} {i : Int} (h1 : kd' i.toNat = kd i.toNat) (h2 : du' i.toNat = du i.toNat) (c b rate : Int) : due kd' du' c i b rate = due kd du c i b rate := by
  unfold due; rw [h1, h2]
/-- the reference's strips -/
noncomputable def GdM (M : am_M) : Prop := 0 ≤ M 53 1 ∧ M 53 1 ≤ 12 ∧ (∀ i, 0 ≤ M 55 i ∧ M 55 i ≤ 5) ∧ ∀ i, 0 ≤ M 56 i ∧ M 56 i ≤ 9
theorem sp_isWall {v : Int} (M : am_M) (hv : iR v) : X_X9_isWall v M = some (b2 (v = 2 ∨ v = 5), M) := by
  simp only [X_X9_isWall, wI_R hv]
  split
  · rw [b2_t (by omega)]
  · split
    · rw [b2_t (by omega)]
    · rw [b2_f (by omega)]
theorem sp_isAt {b i : Int} (M : am_M) (hb : iR b) (hi : iR i) (hi2 : iR (i + 1)) : X_X9_isAt b i M = some (b2 (b = i ∨ b = i + 1), M) := by
  simp only [X_X9_isAt, wI_R hb, wI_R hi, wI_R hi2]
  split
  · rw [b2_t (by omega)]
  · split
    · rw [b2_t (by omega)]
    · rw [b2_f (by omega)]
theorem sp_isTaxed {d : Int} (M : am_M) (hd : 0 ≤ d ∧ d < 1000) : X_X9_isTaxed d M = some (b2 (d % 10 = 9 ∧ d < 40), M) := by
  have ht : wI (d.tmod 10) = d % 10 := by rw [Int.tmod_eq_emod_of_nonneg hd.1]; exact wI_of (by omega) (by omega)
  simp only [X_X9_isTaxed, wI_of (x := d) (by omega) (by omega), ht]
  split
  · split
    · rw [b2_t (by omega)]
    · rw [b2_f (by omega)]
  · rw [b2_f (by omega)]
theorem sp_behind {M : am_M} (h : GdM M) {b day x y : Int} (hb : 0 ≤ b ∧ b ≤ M 53 1) (hd : 0 ≤ day ∧ day < 1000) (hx : 0 ≤ x ∧ x ≤ 3) (hy : 0 ≤ y ∧ y ≤ 3) : X_X9_behind_53 b day x y M = some (aft (M 53 1) (M 55) b day x y, M) := by
  obtain ⟨h1, h2, h3, -⟩ := h
  have hk : ∀ i, wI (M 55 i) = M 55 i := fun i => wI_of (by have := h3 i; omega) (by have := h3 i; omega)
  have hkR : ∀ i, iR (M 55 i) := fun i => ⟨by have := h3 i; omega, by have := h3 i; omega⟩
  have ht : wI (day.tmod 2) = day % 2 := by rw [tm2 hd.1]; exact wI_of (by omega) (by omega)
  rcases (show y < x ∨ x = y ∨ x < y by omega) with hc | hc | hc
  · have e1 : cmp_ y x = -1 := if_pos hc
    have e2 : gap_ x y = x - y := if_neg (by omega)
    have e3 : crs b (-1) = b - 1 := rfl
    simp only [X_X9_behind_53, wI_of (x := x) (by omega) (by omega), wI_of (x := y) (by omega) (by omega), if_pos hc, wI_of (x := x - y) (by omega) (by omega), if_neg (show ¬ x - y = 0 by omega), sp_isStrip ⟨h1, h2⟩ (show iR (b - 1) by unfold iR; omega), ob, b2_w, b2_0, wI_of (x := b - 1) (by omega) (by omega), hk, sp_isWall M (hkR _), wI_of (x := day) (by omega) (by omega), ht, aft, e1, e2, rud, e3, ite_not']
    by_cases q1 : 0 ≤ b - 1 ∧ b - 1 < M 53 1
    · have q2 := h3 (b - 1).toNat
      simp only [if_pos q1, if_pos (show 0 ≤ b - 1 ∧ b - 1 < 12 by omega), show ¬ ((-1 : Int) = 0) by decide, if_false, if_neg (show ¬ (b - 1 < 0 ∨ M 53 1 ≤ b - 1) by omega)]
      repeat' split
      all_goals first | rfl | (exfalso; omega) | (congr 2; omega) | simp_all
    · simp only [if_neg q1, show ¬ ((-1 : Int) = 0) by decide, if_false, if_pos (show b - 1 < 0 ∨ M 53 1 ≤ b - 1 by omega)]
      simp
  · subst hc
    have e1 : cmp_ x x = 0 := by unfold cmp_; simp
    simp only [X_X9_behind_53, wI_of (x := x) (by omega) (by omega), show ¬ x < x by omega, if_false, Int.sub_self, show wI 0 = 0 from rfl, if_true, aft, e1, rud, Int.add_zero, ite_self]
  · have e1 : cmp_ y x = 1 := by unfold cmp_; rw [if_neg (by omega), if_neg (by omega)]
    have e2 : gap_ x y = y - x := if_pos hc
    have e3 : crs b 1 = b := rfl
    simp only [X_X9_behind_53, wI_of (x := x) (by omega) (by omega), wI_of (x := y) (by omega) (by omega), if_neg (show ¬ y < x by omega), wI_of (x := y - x) (by omega) (by omega), if_neg (show ¬ y - x = 0 by omega), sp_isStrip ⟨h1, h2⟩ (show iR b by unfold iR; omega), ob, b2_w, b2_0, wI_of (x := b) (by omega) (by omega), hk, sp_isWall M (hkR _), wI_of (x := day) (by omega) (by omega), ht, aft, e1, e2, rud, e3, ite_not']
    by_cases q1 : 0 ≤ b ∧ b < M 53 1
    · have q2 := h3 b.toNat
      simp only [if_pos q1, if_pos (show 0 ≤ b ∧ b < 12 by omega), show ¬ ((1 : Int) = 0) by decide, if_false, if_neg (show ¬ (b < 0 ∨ M 53 1 ≤ b) by omega)]
      repeat' split
      all_goals first | rfl | (exfalso; omega) | (congr 2; omega) | simp_all
    · simp only [if_neg q1, show ¬ ((1 : Int) = 0) by decide, if_false, if_pos (show b < 0 ∨ M 53 1 ≤ b by omega)]
      simp
theorem sp_paysTo {M : am_M} (h : GdM M) {c i b rate : Int} (hc : 0 ≤ c ∧ c ≤ 1) (hi : 0 ≤ i ∧ i < 12) (hb : 0 ≤ b ∧ b ≤ 12) (hr : 0 ≤ rate ∧ rate ≤ 9) : X_X9_paysTo_53 i c b rate M = some (due (M 55) (M 56) c i b rate, M) := by
  obtain ⟨h1, h2, h3, h4⟩ := h
  have hk := h3 i.toNat
  have hm := mul9 (h4 i.toNat) hr
  simp only [X_X9_paysTo_53, wI_of (x := i) (by omega) (by omega), wI_of (x := b) (by omega) (by omega), wI_of (x := c) (by omega) (by omega), wI_of (x := M 55 i.toNat) (by omega) (by omega), wI_of (x := M 56 i.toNat * rate) (by omega) (by omega), if_pos hi, sp_isAt M (show iR b by unfold iR; omega) (show iR i by unfold iR; omega) (show iR (i + 1) by unfold iR; omega), ob, b2_w, b2_0, ite_not', due, crw, Int.reduceAdd]
  rcases (show c = 0 ∨ c = 1 by omega) with rfl | rfl
  · by_cases q : i < b
    · simp only [if_pos q, if_true, ne_eq, not_true_eq_false, if_false]
      repeat' split
      all_goals first | rfl | (exfalso; omega)
    · simp only [if_neg q, show ¬ ((1 : Int) = 0) by decide, ne_eq, not_false_eq_true, if_true, if_false]
      repeat' split
      all_goals first | rfl | (exfalso; omega)
  · by_cases q : i < b
    · simp only [if_pos q, show ¬ ((0 : Int) = 1) by decide, ne_eq, not_false_eq_true, if_true, if_false]
      repeat' split
      all_goals first | rfl | (exfalso; omega)
    · simp only [if_neg q, if_true, ne_eq, not_true_eq_false, if_false]
      repeat' split
      all_goals first | rfl | (exfalso; omega)
