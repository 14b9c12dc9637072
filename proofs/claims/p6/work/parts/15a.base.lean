/-! Plain words over memory: ranges, and what the smallest functions answer. -/
noncomputable def iR (x : Int) : Prop := -2147483648 ≤ x ∧ x < 2147483648
theorem wI_R {x : Int} (h : iR x) : wI x = x := wI_of h.1 h.2
theorem ob {α β : Type} {a : α} {f : α → Option β} : (some a).bind f = f a := rfl
theorem up_s {M : am_M} {a j : Nat} {x : Int} : am_up M a j x a j = x := by simp [am_up]
theorem up_j {M : am_M} {a j j' : Nat} {x : Int} (h : j' ≠ j) : am_up M a j x a j' = M a j' := by simp [am_up, h]
theorem up_a {M : am_M} {a j a' : Nat} {x : Int} (h : a' ≠ a) : am_up M a j x a' = M a' := by simp [am_up, h]
theorem row_s {M : am_M} {a : Nat} {f : Nat → Int} : am_row M a f a = f := by simp [am_row]
theorem row_a {M : am_M} {a a' : Nat} {f : Nat → Int} (h : a' ≠ a) : am_row M a f a' = M a' := by simp [am_row, h]
theorem cpy_a {M : am_M} {s d sp dp n a' : Nat} (h : a' ≠ d) : am_cpy M s d sp dp n a' = M a' := by simp [am_cpy, am_row, h]
theorem cpy_s {M : am_M} {s d sp dp n : Nat} : am_cpy M s d sp dp n d = va_cpy (M s) (M d) sp dp n := by simp [am_cpy, am_row]
theorem up_row (M : am_M) (a j : Nat) (x : Int) : am_up M a j x = am_row M a (fun i => if i = j then x else M a i) := by
  funext a'
  by_cases h : a' = a
  · subst h; simp [am_up, am_row]
  · simp [am_up, am_row, h]
theorem row_row (M : am_M) (a : Nat) (f g : Nat → Int) : am_row (am_row M a f) a g = am_row M a g := by
  funext a'
  by_cases h : a' = a <;> simp [am_row, h]
theorem row_self (M : am_M) (a : Nat) : am_row M a (M a) = M := by
  funext a'
  by_cases h : a' = a
  · subst h; simp [am_row]
  · simp [am_row, h]
/-- a question's answer as a number -/
noncomputable def b2 (p : Prop) [Decidable p] : Int := if p then 1 else 0
theorem b2_t {p : Prop} [Decidable p] (h : p) : b2 p = 1 := if_pos h
theorem b2_f {p : Prop} [Decidable p] (h : ¬ p) : b2 p = 0 := if_neg h
theorem b2_w (p : Prop) [Decidable p] : wI (b2 p) = b2 p := by unfold b2; split <;> rfl
theorem b2_0 (p : Prop) [Decidable p] : (b2 p = 0) = ¬ p := by unfold b2; split <;> simp_all
theorem b2_1 (p : Prop) [Decidable p] : (b2 p = 1) = p := by unfold b2; split <;> simp_all
theorem b2_r (p : Prop) [Decidable p] : 0 ≤ b2 p ∧ b2 p ≤ 1 := by unfold b2; split <;> omega
theorem b2_01 (p : Prop) [Decidable p] : (b2 p = 0 ∨ b2 p = 1) = True := by unfold b2; split <;> simp
theorem ite_not' {c : Prop} [Decidable c] {α : Type} (a b : α) : (if ¬ c then a else b) = if c then b else a := by split <;> simp_all
/-- 1: what holds of it -/
noncomputable def Sh1 (M : am_M) : Prop := M 1 0 = 6 ∧ M 1 1 = 40 ∧ M 1 2 = 0 ∧ ∀ r, -1 ≤ M 2 r ∧ M 2 r ≤ 40
theorem sp_isNumber_1 {M : am_M} (h : Sh1 M) {r : Int} (hr : iR r) : X_X6_isNumber_1 r M = some (b2 (0 ≤ r ∧ r < 6), M) := by
  unfold X_X6_isNumber_1
  rw [wI_R hr, h.1, show wI 6 = 6 from rfl]
  split
  · rw [b2_f (by omega)]
  · split
    · rw [b2_t (by omega)]
    · rw [b2_f (by omega)]
theorem sp_sizeOf_1 {M : am_M} (h : Sh1 M) {r : Int} (hr : iR r) : X_X6_sizeOf_1 r M = some (if 0 ≤ r ∧ r < 6 then M 2 r.toNat else -1, M) := by
  unfold X_X6_sizeOf_1
  rw [wI_R hr, h.1, show wI 6 = 6 from rfl]
  split
  · rw [if_neg (by omega)]
  · split
    · rw [if_pos (by omega), if_pos (by omega)]
    · rw [if_neg (by omega)]
theorem sz_1 {M : am_M} (h : Sh1 M) (r : Int) : -1 ≤ (if 0 ≤ r ∧ r < 6 then M 2 r.toNat else -1) ∧ (if 0 ≤ r ∧ r < 6 then M 2 r.toNat else -1) ≤ 40 := by
  have := h.2.2.2 r.toNat
  split <;> omega
theorem sp_isThere_1 {M : am_M} (h : Sh1 M) {r : Int} (hr : 0 ≤ r ∧ r < 6) : X_X6_isThere_1 r M = some (b2 (0 ≤ M 2 r.toNat), M) := by
  unfold X_X6_isThere_1
  have h1 := h.2.2.2 r.toNat
  rw [sp_sizeOf_1 h (by unfold iR; omega), if_pos hr, ob]
  dsimp only
  rw [wI_of (by omega) (by omega)]
  split
  · rw [b2_f (by omega)]
  · rw [b2_t (by omega)]
theorem sp_hasPlace_1 {M : am_M} (h : Sh1 M) {r i : Int} (hr : 0 ≤ r ∧ r < 6) (hi : iR i) : X_X6_hasPlace_1 r i M = some (b2 (0 ≤ i ∧ i < M 2 r.toNat), M) := by
  unfold X_X6_hasPlace_1
  have h1 := h.2.2.2 r.toNat
  rw [wI_R hi, sp_sizeOf_1 h (by unfold iR; omega), if_pos hr, ob]
  dsimp only
  rw [wI_of (x := M 2 r.toNat) (by omega) (by omega)]
  split
  · rw [b2_f (by omega)]
  · split
    · rw [b2_t (by omega)]
    · rw [b2_f (by omega)]
theorem sp_get_1 {M : am_M} (h : Sh1 M) {r i : Int} (hr : 0 ≤ r ∧ r < 6) (hi : iR i) : X_X6_get_1 r i M = some (if 0 ≤ i ∧ i < M 2 r.toNat then M 3 (40 * r + i).toNat else 0, M) := by
  have h1 := h.2.2.2 r.toNat
  obtain ⟨hi1, hi2⟩ := hi
  have h2 : X_X6_sizeOf_1 r M = some (M 2 r.toNat, M) := by rw [sp_sizeOf_1 h (by unfold iR; omega), if_pos hr]
  have e : r * 40 + i = 40 * r + i := by omega
  by_cases c1 : 0 ≤ i ∧ i < M 2 r.toNat
  · simp (disch := omega) only [X_X6_get_1, h2, ob, h.2.1, e, wI_of, if_pos, if_neg]
  · by_cases c2 : i < 0
    · simp (disch := omega) only [X_X6_get_1, h2, ob, wI_of, if_pos, if_neg]
    · simp (disch := omega) only [X_X6_get_1, h2, ob, wI_of, if_pos, if_neg]
theorem sp_set_1 {M : am_M} (h : Sh1 M) {r i v : Int} (hr : 0 ≤ r ∧ r < 6) (hi : 0 ≤ i ∧ i < M 2 r.toNat) : X_X6_set_1 r i v M = some (0, am_up M 3 (40 * r + i).toNat v) := by
  have h1 := h.2.2.2 r.toNat
  have h2 : X_X6_hasPlace_1 r i M = some (1, M) := by rw [sp_hasPlace_1 h hr (by unfold iR; omega), b2_t hi]
  have e : r * 40 + i = 40 * r + i := by omega
  simp (disch := omega) only [X_X6_set_1, h2, ob, h.2.1, e, wI_of, if_pos, if_neg]
theorem sp_remove_1_ {M : am_M} : True := trivial
/-- make: its loop -/
theorem lp_make_1 (k : am_M → am_Rs) : ∀ (d n : Nat) (M : am_M) (r i z : Int), M 1 1 = 40 → M 1 2 = 0 → 0 ≤ r → r < 6 → 0 ≤ i → i ≤ z → z ≤ 40 → (z - i).toNat = d → d < n → XL_X6_make_1_5 k n r z i M = k (am_row M 3 fun j => if 40 * r + i ≤ (j : Int) ∧ (j : Int) < 40 * r + z then 0 else M 3 j)
  | 0, n + 1, M, r, i, z, h1, h2, hr, hr2, hi, hiz, hz, hd, hn => by
    have e : ∀ j : Nat, ¬ (40 * r + i ≤ (j : Int) ∧ (j : Int) < 40 * r + z) := fun j => by omega
    simp (disch := omega) only [XL_X6_make_1_5, XB_X6_make_1_5, wI_of, if_neg, e, if_false]
    rw [row_self]
  | d + 1, n + 1, M, r, i, z, h1, h2, hr, hr2, hi, hiz, hz, hd, hn => by
    have e : r * 40 + i = 40 * r + i := by omega
    simp (disch := omega) only [XL_X6_make_1_5, XB_X6_make_1_5, wI_of, if_pos, h1, h2, e]
    rw [lp_make_1 k d n _ r (i + 1) z (by rw [up_a (by decide)]; exact h1) (by rw [up_a (by decide)]; exact h2) hr hr2 (by omega) (by omega) hz (by omega) (by omega), up_row, row_row]
    congr 2
    funext j
    simp only [row_s]
    by_cases hj : j = (40 * r + i).toNat
    · rw [if_pos (show 40 * r + i ≤ (j : Int) ∧ (j : Int) < 40 * r + z by omega), if_neg (by omega), if_pos hj]
    · by_cases hj2 : 40 * r + (i + 1) ≤ (j : Int) ∧ (j : Int) < 40 * r + z
      · rw [if_pos hj2, if_pos (by omega)]
      · rw [if_neg hj2, if_neg hj, if_neg (by omega)]
theorem sp_make_1 {M : am_M} (h : Sh1 M) {r n : Int} (hr : 0 ≤ r ∧ r < 6) (hn : 0 ≤ n ∧ n ≤ 40) : X_X6_make_1 r n M = some (0, am_row (am_up M 2 r.toNat n) 3 fun j => if 40 * r ≤ (j : Int) ∧ (j : Int) < 40 * r + n then 0 else M 3 j) := by
  have h2 : X_X6_isNumber_1 r M = some (1, M) := by rw [sp_isNumber_1 h (by unfold iR; omega), b2_t hr]
  simp (disch := omega) only [X_X6_make_1, XB_X6_make_1_e, h2, ob, h.2.1, wI_of, if_pos, if_neg]
  rw [lp_make_1 _ n.toNat 1000 _ r 0 n (by rw [up_a (by decide)]; exact h.2.1) (by rw [up_a (by decide)]; exact h.2.2.1) hr.1 hr.2 (by omega) hn.1 hn.2 (by omega) (by omega)]
  simp only [XB_X6_make_1_7, Int.add_zero, up_a (show 3 ≠ 2 by decide)]
/-- 4: what holds of it -/
noncomputable def Sh4 (M : am_M) : Prop := M 4 0 = 4 ∧ M 4 1 = 60 ∧ M 4 2 = 32 ∧ ∀ r, -1 ≤ M 5 r ∧ M 5 r ≤ 60
theorem sp_isNumber_4 {M : am_M} (h : Sh4 M) {r : Int} (hr : iR r) : X_X6_isNumber_4 r M = some (b2 (0 ≤ r ∧ r < 4), M) := by
  unfold X_X6_isNumber_4
  rw [wI_R hr, h.1, show wI 4 = 4 from rfl]
  split
  · rw [b2_f (by omega)]
  · split
    · rw [b2_t (by omega)]
    · rw [b2_f (by omega)]
theorem sp_sizeOf_4 {M : am_M} (h : Sh4 M) {r : Int} (hr : iR r) : X_X6_sizeOf_4 r M = some (if 0 ≤ r ∧ r < 4 then M 5 r.toNat else -1, M) := by
  unfold X_X6_sizeOf_4
  rw [wI_R hr, h.1, show wI 4 = 4 from rfl]
  split
  · rw [if_neg (by omega)]
  · split
    · rw [if_pos (by omega), if_pos (by omega)]
    · rw [if_neg (by omega)]
theorem sz_4 {M : am_M} (h : Sh4 M) (r : Int) : -1 ≤ (if 0 ≤ r ∧ r < 4 then M 5 r.toNat else -1) ∧ (if 0 ≤ r ∧ r < 4 then M 5 r.toNat else -1) ≤ 60 := by
  have := h.2.2.2 r.toNat
  split <;> omega
theorem sp_isThere_4 {M : am_M} (h : Sh4 M) {r : Int} (hr : 0 ≤ r ∧ r < 4) : X_X6_isThere_4 r M = some (b2 (0 ≤ M 5 r.toNat), M) := by
  unfold X_X6_isThere_4
  have h1 := h.2.2.2 r.toNat
  rw [sp_sizeOf_4 h (by unfold iR; omega), if_pos hr, ob]
  dsimp only
  rw [wI_of (by omega) (by omega)]
  split
  · rw [b2_f (by omega)]
  · rw [b2_t (by omega)]
theorem sp_hasPlace_4 {M : am_M} (h : Sh4 M) {r i : Int} (hr : 0 ≤ r ∧ r < 4) (hi : iR i) : X_X6_hasPlace_4 r i M = some (b2 (0 ≤ i ∧ i < M 5 r.toNat), M) := by
  unfold X_X6_hasPlace_4
  have h1 := h.2.2.2 r.toNat
  rw [wI_R hi, sp_sizeOf_4 h (by unfold iR; omega), if_pos hr, ob]
  dsimp only
  rw [wI_of (x := M 5 r.toNat) (by omega) (by omega)]
  split
  · rw [b2_f (by omega)]
  · split
    · rw [b2_t (by omega)]
    · rw [b2_f (by omega)]
theorem sp_get_4 {M : am_M} (h : Sh4 M) {r i : Int} (hr : 0 ≤ r ∧ r < 4) (hi : iR i) : X_X6_get_4 r i M = some (if 0 ≤ i ∧ i < M 5 r.toNat then M 6 (60 * r + i).toNat else 0, M) := by
  have h1 := h.2.2.2 r.toNat
  obtain ⟨hi1, hi2⟩ := hi
  have h2 : X_X6_sizeOf_4 r M = some (M 5 r.toNat, M) := by rw [sp_sizeOf_4 h (by unfold iR; omega), if_pos hr]
  have e : r * 60 + i = 60 * r + i := by omega
  by_cases c1 : 0 ≤ i ∧ i < M 5 r.toNat
  · simp (disch := omega) only [X_X6_get_4, h2, ob, h.2.1, e, wI_of, if_pos, if_neg]
  · by_cases c2 : i < 0
    · simp (disch := omega) only [X_X6_get_4, h2, ob, wI_of, if_pos, if_neg]
    · simp (disch := omega) only [X_X6_get_4, h2, ob, wI_of, if_pos, if_neg]
theorem sp_set_4 {M : am_M} (h : Sh4 M) {r i v : Int} (hr : 0 ≤ r ∧ r < 4) (hi : 0 ≤ i ∧ i < M 5 r.toNat) : X_X6_set_4 r i v M = some (0, am_up M 6 (60 * r + i).toNat v) := by
  have h1 := h.2.2.2 r.toNat
  have h2 : X_X6_hasPlace_4 r i M = some (1, M) := by rw [sp_hasPlace_4 h hr (by unfold iR; omega), b2_t hi]
  have e : r * 60 + i = 60 * r + i := by omega
  simp (disch := omega) only [X_X6_set_4, h2, ob, h.2.1, e, wI_of, if_pos, if_neg]
theorem sp_remove_4_ {M : am_M} : True := trivial
/-- make: its loop -/
theorem lp_make_4 (k : am_M → am_Rs) : ∀ (d n : Nat) (M : am_M) (r i z : Int), M 4 1 = 60 → M 4 2 = 32 → 0 ≤ r → r < 4 → 0 ≤ i → i ≤ z → z ≤ 60 → (z - i).toNat = d → d < n → XL_X6_make_4_5 k n r z i M = k (am_row M 6 fun j => if 60 * r + i ≤ (j : Int) ∧ (j : Int) < 60 * r + z then 32 else M 6 j)
  | 0, n + 1, M, r, i, z, h1, h2, hr, hr2, hi, hiz, hz, hd, hn => by
    have e : ∀ j : Nat, ¬ (60 * r + i ≤ (j : Int) ∧ (j : Int) < 60 * r + z) := fun j => by omega
    simp (disch := omega) only [XL_X6_make_4_5, XB_X6_make_4_5, wI_of, if_neg, e, if_false]
    rw [row_self]
  | d + 1, n + 1, M, r, i, z, h1, h2, hr, hr2, hi, hiz, hz, hd, hn => by
    have e : r * 60 + i = 60 * r + i := by omega
    simp (disch := omega) only [XL_X6_make_4_5, XB_X6_make_4_5, wI_of, if_pos, h1, h2, e]
    rw [lp_make_4 k d n _ r (i + 1) z (by rw [up_a (by decide)]; exact h1) (by rw [up_a (by decide)]; exact h2) hr hr2 (by omega) (by omega) hz (by omega) (by omega), up_row, row_row]
    congr 2
    funext j
    simp only [row_s]
    by_cases hj : j = (60 * r + i).toNat
    · rw [if_pos (show 60 * r + i ≤ (j : Int) ∧ (j : Int) < 60 * r + z by omega), if_neg (by omega), if_pos hj]
    · by_cases hj2 : 60 * r + (i + 1) ≤ (j : Int) ∧ (j : Int) < 60 * r + z
      · rw [if_pos hj2, if_pos (by omega)]
      · rw [if_neg hj2, if_neg hj, if_neg (by omega)]
theorem sp_make_4 {M : am_M} (h : Sh4 M) {r n : Int} (hr : 0 ≤ r ∧ r < 4) (hn : 0 ≤ n ∧ n ≤ 60) : X_X6_make_4 r n M = some (0, am_row (am_up M 5 r.toNat n) 6 fun j => if 60 * r ≤ (j : Int) ∧ (j : Int) < 60 * r + n then 32 else M 6 j) := by
  have h2 : X_X6_isNumber_4 r M = some (1, M) := by rw [sp_isNumber_4 h (by unfold iR; omega), b2_t hr]
  simp (disch := omega) only [X_X6_make_4, XB_X6_make_4_e, h2, ob, h.2.1, wI_of, if_pos, if_neg]
  rw [lp_make_4 _ n.toNat 1000 _ r 0 n (by rw [up_a (by decide)]; exact h.2.1) (by rw [up_a (by decide)]; exact h.2.2.1) hr.1 hr.2 (by omega) hn.1 hn.2 (by omega) (by omega)]
  simp only [XB_X6_make_4_7, Int.add_zero, up_a (show 6 ≠ 5 by decide)]
