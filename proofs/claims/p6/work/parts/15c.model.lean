/-! The reference's smallest functions. -/
theorem b2_c {p q : Prop} [Decidable p] [Decidable q] (h : p ↔ q) : b2 p = b2 q := by
  by_cases hp : p
  · rw [b2_t hp, b2_t (h.mp hp)]
  · rw [b2_f hp, b2_f (fun x => hp (h.mpr x))]
theorem lc_lt (x y : Int) : (wI (c_lcmp x y) < 0) = (wL x < wL y) := by
  apply propext
  unfold c_lcmp
  split
  · rw [show wI 1 = 1 from rfl]; omega
  · split
    · rw [show wI 0 = 0 from rfl]; omega
    · rw [show wI (-1) = -1 from rfl]; omega
theorem lc_gt (x y : Int) : (0 < wI (c_lcmp x y)) = (wL y < wL x) := by
  apply propext
  unfold c_lcmp
  split
  · rw [show wI 1 = 1 from rfl]; omega
  · split
    · rw [show wI 0 = 0 from rfl]; omega
    · rw [show wI (-1) = -1 from rfl]; omega
theorem lc_eq (x y : Int) : (wI (c_lcmp x y) = 0) = (wL x = wL y) := by
  apply propext
  unfold c_lcmp
  split
  · rw [show wI 1 = 1 from rfl]; omega
  · split
    · rw [show wI 0 = 0 from rfl]; omega
    · rw [show wI (-1) = -1 from rfl]; omega
theorem wL_R {x : Int} (h : iR x) : wL x = x := wL_of (by have := h.1; omega) (by have := h.2; omega)
theorem iR_w (x : Int) : iR (wI x) := ⟨wI_lo x, wI_hi x⟩
theorem sp_in {v lo hi : Int} (M : am_M) (h1 : iR v) (h2 : iR lo) (h3 : iR hi) : X_X9_in v lo hi M = some (b2 (lo ≤ v ∧ v ≤ hi), M) := by
  simp only [X_X9_in, lc_lt, lc_gt, wL_R h1, wL_R h2, wL_R h3]
  split
  · rw [b2_f (by omega)]
  · split
    · rw [b2_f (by omega)]
    · rw [b2_t (by omega)]
theorem sp_isRow {r : Int} (M : am_M) (hr : iR r) : X_X9_isRow r M = some (b2 (0 ≤ r ∧ r < 6), M) := by
  simp only [X_X9_isRow, wI_R hr, sp_in M hr (by unfold iR; omega : iR 0) (by unfold iR; omega : iR 5), ob, b2_01, if_true]
  rw [b2_c (by omega : (0 ≤ r ∧ r ≤ 5) ↔ (0 ≤ r ∧ r < 6))]
theorem sp_isText {r : Int} (M : am_M) (hr : iR r) : X_X9_isText r M = some (b2 (0 ≤ r ∧ r < 4), M) := by
  simp only [X_X9_isText, wI_R hr, sp_in M hr (by unfold iR; omega : iR 0) (by unfold iR; omega : iR 3), ob, b2_01, if_true]
  rw [b2_c (by omega : (0 ≤ r ∧ r ≤ 3) ↔ (0 ≤ r ∧ r < 4))]
theorem sp_isSaid {r : Int} (M : am_M) (hr : iR r) : X_X9_isSaid r M = some (b2 (0 ≤ r ∧ r ≤ 3), M) := by
  simp only [X_X9_isSaid, wI_R hr, sp_in M hr (by unfold iR; omega : iR 0) (by unfold iR; omega : iR 3), ob, b2_01, if_true]
theorem sp_isStrip {i : Int} {M : am_M} (hs : 0 ≤ M 53 1 ∧ M 53 1 ≤ 12) (hi : iR i) : X_X9_isStrip_53 i M = some (b2 (0 ≤ i ∧ i < M 53 1), M) := by
  simp only [X_X9_isStrip_53, wI_R hi, wI_of (x := M 53 1 - 1) (by omega) (by omega), sp_in M hi (by unfold iR; omega : iR 0) (by unfold iR; omega : iR (M 53 1 - 1)), ob, b2_01, if_true]
  rw [b2_c (by omega : (0 ≤ i ∧ i ≤ M 53 1 - 1) ↔ (0 ≤ i ∧ i < M 53 1))]
theorem sp_isPlace {i : Int} {M : am_M} (hs : 0 ≤ M 53 1 ∧ M 53 1 ≤ 12) (hi : iR i) : X_X9_isPlace_53 i M = some (b2 (0 ≤ i ∧ i ≤ M 53 1), M) := by
  simp only [X_X9_isPlace_53, wI_R hi, wI_of (x := M 53 1) (by omega) (by omega), sp_in M hi (by unfold iR; omega : iR 0) (by unfold iR; omega : iR (M 53 1)), ob, b2_01, if_true]
/-- findings and what is told, on both sides -/
noncomputable def cF (f : Nat) (M : am_M) : am_M := am_up (am_up M 0 12 f) 52 f (M 52 f + 1)
noncomputable def mF (f : Nat) (M : am_M) : am_M := am_up (am_up M 53 11 f) 61 f (M 61 f + 1)
noncomputable def cT (v : Int) (M : am_M) : am_M := am_up M 0 13 v
noncomputable def mT (v : Int) (M : am_M) : am_M := am_up M 53 8 v
theorem sp_find_0 {f : Nat} (hf : 1 ≤ f ∧ f ≤ 5) (M : am_M) : X_X8_find_0 (f : Int) M = some (-3, cF f M) := by
  simp (disch := omega) only [X_X8_find_0, wI_of, if_pos, if_neg, Int.toNat_natCast, up_a (show 52 ≠ 0 by decide), cF]
theorem sp_find_53 {f : Nat} (hf : 1 ≤ f ∧ f ≤ 5) (M : am_M) : X_X9_find_53 (f : Int) M = some (-3, mF f M) := by
  simp (disch := omega) only [X_X9_find_53, wI_of, if_pos, Int.toNat_natCast, up_a (show 61 ≠ 53 by decide), mF]
theorem sp_tell_0 (v : Int) (M : am_M) : X_X8_tell_0 v M = some (1, cT v M) := rfl
theorem sp_tell_53 (v : Int) (M : am_M) : X_X9_tell_53 v M = some (1, mT v M) := rfl
