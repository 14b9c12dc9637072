section
/-! Plain words over memory: ranges, and what the smallest functions answer. -/
noncomputable def iR (x : Int) : Prop := -2147483648 ≤ x ∧ x < 2147483648
theorem wI_R {x : Int} (h : iR x) : wI x = x := wI_of h.1 h.2
theorem ob {α β : Type} {a : α} {f : α → Option β} : (some a).bind f = f a := rfl
theorem up_s {M : am_M} {a j : Nat} {x : Int} : am_up M a j x a j = x := by simp [am_up]
theorem up_j {M : am_M} {a j j' : Nat} {x : Int} (h : j' ≠ j) : am_up M a j x a j' = M a j' := by simp [am_up, h]
theorem up_a {M : am_M} {a j a' : Nat} {x : Int} (h : a' ≠ a) : am_up M a j x a' = M a' := by simp [am_up, h]
theorem row_s {M : am_M} {a : Nat} {f : Nat → Int} : am_row M a f a = f := by simp [am_row]
theorem row_a {M : am_M} {a a' : Nat} {f : Nat → Int} (h : a' ≠ a) : am_row M a f a' = M a' := by simp [am_row, h]
theorem cpy_a {M : am_M} {s d sp dp n a' : Nat} (h : a' ≠ d) : am_cpy M s d sp dp n a' = M a' := by simp [am_cpy, am_row, h]
theorem cpy_s {M : am_M} {s d sp dp n : Nat} : am_cpy M s d sp dp n d = va_cpy (M s) (M d) sp dp n := by simp [am_cpy, am_row]
theorem up_row (M : am_M) (a j : Nat) (x : Int) : am_up M a j x = am_row M a (fun i => if i = j then x else M a i) := by
  funext a'
  by_cases h : a' = a
  · subst h; simp [am_up, am_row]
  · simp [am_up, am_row, h]
theorem row_row (M : am_M) (a : Nat) (f g : Nat → Int) : am_row (am_row M a f) a g = am_row M a g := by
  funext a'
  by_cases h : a' = a <;> simp [am_row, h]
theorem row_self (M : am_M) (a : Nat) : am_row M a (M a) = M := by
  funext a'
  by_cases h : a' = a
  · subst h; simp [am_row]
  · simp [am_row, h]
/-- a question's answer as a number -/
noncomputable def b2 (p : Prop) [Decidable p] : Int := if p then 1 else 0
theorem b2_t {p : Prop} [Decidable p] (h : p) : b2 p = 1 := if_pos h
theorem b2_f {p : Prop} [Decidable p] (h : ¬ p) : b2 p = 0 := if_neg h
theorem b2_w (p : Prop) [Decidable p] : wI (b2 p) = b2 p := by unfold b2; split <;> rfl
theorem b2_0 (p : Prop) [Decidable p] : (b2 p = 0) = ¬ p := by unfold b2; split <;> simp_all
theorem b2_1 (p : Prop) [Decidable p] : (b2 p = 1) = p := by unfold b2; split <;> simp_all
theorem b2_r (p : Prop) [Decidable p] : 0 ≤ b2 p ∧ b2 p ≤ 1 := by unfold b2; split <;> omega
theorem b2_01 (p : Prop) [Decidable p] : (b2 p = 0 ∨ b2 p = 1) = True := by unfold b2; split <;> simp
theorem ite_not' {c : Prop} [Decidable c] {α : Type} (a b : α) : (if ¬ c then a else b) = if c then b else a := by split <;> simp_all
/-- 1: what holds of it -/
noncomputable def Sh1 (M : am_M) : Prop := M 1 0 = 6 ∧ M 1 1 = 40 ∧ M 1 2 = 0 ∧ ∀ r, -1 ≤ M 2 r ∧ M 2 r ≤ 40
theorem sp_isNumber_1 {M : am_M} (h : Sh1 M) {r : Int} (hr : iR r) : X_X6_isNumber_1 r M = some (b2 (0 ≤ r ∧ r < 6), M) := by
  unfold X_X6_isNumber_1
  rw [wI_R hr, h.1, show wI 6 = 6 from rfl]
  split
  · rw [b2_f (by omega)]
  · split
    · rw [b2_t (by omega)]
    · rw [b2_f (by omega)]
theorem sp_sizeOf_1 {M : am_M} (h : Sh1 M) {r : Int} (hr : iR r) : X_X6_sizeOf_1 r M = some (if 0 ≤ r ∧ r < 6 then M 2 r.toNat else -1, M) := by
  unfold X_X6_sizeOf_1
  rw [wI_R hr, h.1, show wI 6 = 6 from rfl]
  split
  · rw [if_neg (by omega)]
  · split
    · rw [if_pos (by omega), if_pos (by omega)]
    · rw [if_neg (by omega)]
theorem sz_1 {M : am_M} (h : Sh1 M) (r : Int) : -1 ≤ (if 0 ≤ r ∧ r < 6 then M 2 r.toNat else -1) ∧ (if 0 ≤ r ∧ r < 6 then M 2 r.toNat else -1) ≤ 40 := by
  have := h.2.2.2 r.toNat
  split <;> omega
theorem sp_isThere_1 {M : am_M} (h : Sh1 M) {r : Int} (hr : 0 ≤ r ∧ r < 6) : X_X6_isThere_1 r M = some (b2 (0 ≤ M 2 r.toNat), M) := by
  unfold X_X6_isThere_1
  have h1 := h.2.2.2 r.toNat
  rw [sp_sizeOf_1 h (by unfold iR; omega), if_pos hr, ob]
  dsimp only
  rw [wI_of (by omega) (by omega)]
  split
  · rw [b2_f (by omega)]
  · rw [b2_t (by omega)]
theorem sp_hasPlace_1 {M : am_M} (h : Sh1 M) {r i : Int} (hr : 0 ≤ r ∧ r < 6) (hi : iR i) : X_X6_hasPlace_1 r i M = some (b2 (0 ≤ i ∧ i < M 2 r.toNat), M) := by
  unfold X_X6_hasPlace_1
  have h1 := h.2.2.2 r.toNat
  rw [wI_R hi, sp_sizeOf_1 h (by unfold iR; omega), if_pos hr, ob]
  dsimp only
  rw [wI_of (x := M 2 r.toNat) (by omega) (by omega)]
  split
  · rw [b2_f (by omega)]
  · split
    · rw [b2_t (by omega)]
    · rw [b2_f (by omega)]
theorem sp_get_1 {M : am_M} (h : Sh1 M) {r i : Int} (hr : 0 ≤ r ∧ r < 6) (hi : iR i) : X_X6_get_1 r i M = some (if 0 ≤ i ∧ i < M 2 r.toNat then M 3 (40 * r + i).toNat else 0, M) := by
  have h1 := h.2.2.2 r.toNat
  obtain ⟨hi1, hi2⟩ := hi
  have h2 : X_X6_sizeOf_1 r M = some (M 2 r.toNat, M) := by rw [sp_sizeOf_1 h (by unfold iR; omega), if_pos hr]
  have e : r * 40 + i = 40 * r + i := by omega
  by_cases c1 : 0 ≤ i ∧ i < M 2 r.toNat
  · simp (disch := omega) only [X_X6_get_1, h2, ob, h.2.1, e, wI_of, if_pos, if_neg]
  · by_cases c2 : i < 0
    · simp (disch := omega) only [X_X6_get_1, h2, ob, wI_of, if_pos, if_neg]
    · simp (disch := omega) only [X_X6_get_1, h2, ob, wI_of, if_pos, if_neg]
theorem sp_set_1 {M : am_M} (h : Sh1 M) {r i v : Int} (hr : 0 ≤ r ∧ r < 6) (hi : 0 ≤ i ∧ i < M 2 r.toNat) : X_X6_set_1 r i v M = some (0, am_up M 3 (40 * r + i).toNat v) := by
  have h1 := h.2.2.2 r.toNat
  have h2 : X_X6_hasPlace_1 r i M = some (1, M) := by rw [sp_hasPlace_1 h hr (by unfold iR; omega), b2_t hi]
  have e : r * 40 + i = 40 * r + i := by omega
  simp (disch := omega) only [X_X6_set_1, h2, ob, h.2.1, e, wI_of, if_pos, if_neg]
theorem sp_remove_1_ {M : am_M} : True := trivial
/-- make: its loop -/
theorem lp_make_1 (k : am_M → am_Rs) : ∀ (d n : Nat) (M : am_M) (r i z : Int), M 1 1 = 40 → M 1 2 = 0 → 0 ≤ r → r < 6 → 0 ≤ i → i ≤ z → z ≤ 40 → (z - i).toNat = d → d < n → XL_X6_make_1_5 k n r z i M = k (am_row M 3 fun j => if 40 * r + i ≤ (j : Int) ∧ (j : Int) < 40 * r + z then 0 else M 3 j)
  | 0, n + 1, M, r, i, z, h1, h2, hr, hr2, hi, hiz, hz, hd, hn => by
    have e : ∀ j : Nat, ¬ (40 * r + i ≤ (j : Int) ∧ (j : Int) < 40 * r + z) := fun j => by omega
    simp (disch := omega) only [XL_X6_make_1_5, XB_X6_make_1_5, wI_of, if_neg, e, if_false]
    rw [row_self]
  | d + 1, n + 1, M, r, i, z, h1, h2, hr, hr2, hi, hiz, hz, hd, hn => by
    have e : r * 40 + i = 40 * r + i := by omega
    simp (disch := omega) only [XL_X6_make_1_5, XB_X6_make_1_5, wI_of, if_pos, h1, h2, e]
    rw [lp_make_1 k d n _ r (i + 1) z (by rw [up_a (by decide)]; exact h1) (by rw [up_a (by decide)]; exact h2) hr hr2 (by omega) (by omega) hz (by omega) (by omega), up_row, row_row]
    congr 2
    funext j
    simp only [row_s]
    by_cases hj : j = (40 * r + i).toNat
    · rw [if_pos (show 40 * r + i ≤ (j : Int) ∧ (j : Int) < 40 * r + z by omega), if_neg (by omega), if_pos hj]
    · by_cases hj2 : 40 * r + (i + 1) ≤ (j : Int) ∧ (j : Int) < 40 * r + z
      · rw [if_pos hj2, if_pos (by omega)]
      · rw [if_neg hj2, if_neg hj, if_neg (by omega)]
theorem sp_make_1 {M : am_M} (h : Sh1 M) {r n : Int} (hr : 0 ≤ r ∧ r < 6) (hn : 0 ≤ n ∧ n ≤ 40) : X_X6_make_1 r n M = some (0, am_row (am_up M 2 r.toNat n) 3 fun j => if 40 * r ≤ (j : Int) ∧ (j : Int) < 40 * r + n then 0 else M 3 j) := by
  have h2 : X_X6_isNumber_1 r M = some (1, M) := by rw [sp_isNumber_1 h (by unfold iR; omega), b2_t hr]
  simp (disch := omega) only [X_X6_make_1, XB_X6_make_1_e, h2, ob, h.2.1, wI_of, if_pos, if_neg]
  rw [lp_make_1 _ n.toNat 1000 _ r 0 n (by rw [up_a (by decide)]; exact h.2.1) (by rw [up_a (by decide)]; exact h.2.2.1) hr.1 hr.2 (by omega) hn.1 hn.2 (by omega) (by omega)]
  simp only [XB_X6_make_1_7, Int.add_zero, up_a (show 3 ≠ 2 by decide)]
/-- 4: what holds of it -/
noncomputable def Sh4 (M : am_M) : Prop := M 4 0 = 4 ∧ M 4 1 = 60 ∧ M 4 2 = 32 ∧ ∀ r, -1 ≤ M 5 r ∧ M 5 r ≤ 60
theorem sp_isNumber_4 {M : am_M} (h : Sh4 M) {r : Int} (hr : iR r) : X_X6_isNumber_4 r M = some (b2 (0 ≤ r ∧ r < 4), M) := by
  unfold X_X6_isNumber_4
  rw [wI_R hr, h.1, show wI 4 = 4 from rfl]
  split
  · rw [b2_f (by omega)]
  · split
    · rw [b2_t (by omega)]
    · rw [b2_f (by omega)]
theorem sp_sizeOf_4 {M : am_M} (h : Sh4 M) {r : Int} (hr : iR r) : X_X6_sizeOf_4 r M = some (if 0 ≤ r ∧ r < 4 then M 5 r.toNat else -1, M) := by
  unfold X_X6_sizeOf_4
  rw [wI_R hr, h.1, show wI 4 = 4 from rfl]
  split
  · rw [if_neg (by omega)]
  · split
    · rw [if_pos (by omega), if_pos (by omega)]
    · rw [if_neg (by omega)]
theorem sz_4 {M : am_M} (h : Sh4 M) (r : Int) : -1 ≤ (if 0 ≤ r ∧ r < 4 then M 5 r.toNat else -1) ∧ (if 0 ≤ r ∧ r < 4 then M 5 r.toNat else -1) ≤ 60 := by
  have := h.2.2.2 r.toNat
  split <;> omega
theorem sp_isThere_4 {M : am_M} (h : Sh4 M) {r : Int} (hr : 0 ≤ r ∧ r < 4) : X_X6_isThere_4 r M = some (b2 (0 ≤ M 5 r.toNat), M) := by
  unfold X_X6_isThere_4
  have h1 := h.2.2.2 r.toNat
  rw [sp_sizeOf_4 h (by unfold iR; omega), if_pos hr, ob]
  dsimp only
  rw [wI_of (by omega) (by omega)]
  split
  · rw [b2_f (by omega)]
  · rw [b2_t (by omega)]
theorem sp_hasPlace_4 {M : am_M} (h : Sh4 M) {r i : Int} (hr : 0 ≤ r ∧ r < 4) (hi : iR i) : X_X6_hasPlace_4 r i M = some (b2 (0 ≤ i ∧ i < M 5 r.toNat), M) := by
  unfold X_X6_hasPlace_4
  have h1 := h.2.2.2 r.toNat
  rw [wI_R hi, sp_sizeOf_4 h (by unfold iR; omega), if_pos hr, ob]
  dsimp only
  rw [wI_of (x := M 5 r.toNat) (by omega) (by omega)]
  split
  · rw [b2_f (by omega)]
  · split
    · rw [b2_t (by omega)]
    · rw [b2_f (by omega)]
theorem sp_get_4 {M : am_M} (h : Sh4 M) {r i : Int} (hr : 0 ≤ r ∧ r < 4) (hi : iR i) : X_X6_get_4 r i M = some (if 0 ≤ i ∧ i < M 5 r.toNat then M 6 (60 * r + i).toNat else 0, M) := by
  have h1 := h.2.2.2 r.toNat
  obtain ⟨hi1, hi2⟩ := hi
  have h2 : X_X6_sizeOf_4 r M = some (M 5 r.toNat, M) := by rw [sp_sizeOf_4 h (by unfold iR; omega), if_pos hr]
  have e : r * 60 + i = 60 * r + i := by omega
  by_cases c1 : 0 ≤ i ∧ i < M 5 r.toNat
  · simp (disch := omega) only [X_X6_get_4, h2, ob, h.2.1, e, wI_of, if_pos, if_neg]
  · by_cases c2 : i < 0
    · simp (disch := omega) only [X_X6_get_4, h2, ob, wI_of, if_pos, if_neg]
    · simp (disch := omega) only [X_X6_get_4, h2, ob, wI_of, if_pos, if_neg]
theorem sp_set_4 {M : am_M} (h : Sh4 M) {r i v : Int} (hr : 0 ≤ r ∧ r < 4) (hi : 0 ≤ i ∧ i < M 5 r.toNat) : X_X6_set_4 r i v M = some (0, am_up M 6 (60 * r + i).toNat v) := by
  have h1 := h.2.2.2 r.toNat
  have h2 : X_X6_hasPlace_4 r i M = some (1, M) := by rw [sp_hasPlace_4 h hr (by unfold iR; omega), b2_t hi]
  have e : r * 60 + i = 60 * r + i := by omega
  simp (disch := omega) only [X_X6_set_4, h2, ob, h.2.1, e, wI_of, if_pos, if_neg]
theorem sp_remove_4_ {M : am_M} : True := trivial
/-- make: its loop -/
theorem lp_make_4 (k : am_M → am_Rs) : ∀ (d n : Nat) (M : am_M) (r i z : Int), M 4 1 = 60 → M 4 2 = 32 → 0 ≤ r → r < 4 → 0 ≤ i → i ≤ z → z ≤ 60 → (z - i).toNat = d → d < n → XL_X6_make_4_5 k n r z i M = k (am_row M 6 fun j => if 60 * r + i ≤ (j : Int) ∧ (j : Int) < 60 * r + z then 32 else M 6 j)
  | 0, n + 1, M, r, i, z, h1, h2, hr, hr2, hi, hiz, hz, hd, hn => by
    have e : ∀ j : Nat, ¬ (60 * r + i ≤ (j : Int) ∧ (j : Int) < 60 * r + z) := fun j => by omega
    simp (disch := omega) only [XL_X6_make_4_5, XB_X6_make_4_5, wI_of, if_neg, e, if_false]
    rw [row_self]
  | d + 1, n + 1, M, r, i, z, h1, h2, hr, hr2, hi, hiz, hz, hd, hn => by
    have e : r * 60 + i = 60 * r + i := by omega
    simp (disch := omega) only [XL_X6_make_4_5, XB_X6_make_4_5, wI_of, if_pos, h1, h2, e]
    rw [lp_make_4 k d n _ r (i + 1) z (by rw [up_a (by decide)]; exact h1) (by rw [up_a (by decide)]; exact h2) hr hr2 (by omega) (by omega) hz (by omega) (by omega), up_row, row_row]
    congr 2
    funext j
    simp only [row_s]
    by_cases hj : j = (60 * r + i).toNat
    · rw [if_pos (show 60 * r + i ≤ (j : Int) ∧ (j : Int) < 60 * r + z by omega), if_neg (by omega), if_pos hj]
    · by_cases hj2 : 60 * r + (i + 1) ≤ (j : Int) ∧ (j : Int) < 60 * r + z
      · rw [if_pos hj2, if_pos (by omega)]
      · rw [if_neg hj2, if_neg hj, if_neg (by omega)]
theorem sp_make_4 {M : am_M} (h : Sh4 M) {r n : Int} (hr : 0 ≤ r ∧ r < 4) (hn : 0 ≤ n ∧ n ≤ 60) : X_X6_make_4 r n M = some (0, am_row (am_up M 5 r.toNat n) 6 fun j => if 60 * r ≤ (j : Int) ∧ (j : Int) < 60 * r + n then 32 else M 6 j) := by
  have h2 : X_X6_isNumber_4 r M = some (1, M) := by rw [sp_isNumber_4 h (by unfold iR; omega), b2_t hr]
  simp (disch := omega) only [X_X6_make_4, XB_X6_make_4_e, h2, ob, h.2.1, wI_of, if_pos, if_neg]
  rw [lp_make_4 _ n.toNat 1000 _ r 0 n (by rw [up_a (by decide)]; exact h.2.1) (by rw [up_a (by decide)]; exact h.2.2.1) hr.1 hr.2 (by omega) hn.1 hn.2 (by omega) (by omega)]
  simp only [XB_X6_make_4_7, Int.add_zero, up_a (show 6 ≠ 5 by decide)]
end
section
/-! The land's own arithmetic, and that the class's functions of it answer so. -/
noncomputable def crs (b mv : Int) : Int := if mv < 0 then b - 1 else b
noncomputable def rud (s : Int) (kd : Nat → Int) (b mv day : Int) : Int :=
  if mv = 0 then 0 else if crs b mv < 0 ∨ s ≤ crs b mv then -1 else if kd (crs b mv).toNat = 3 ∧ day % 2 ≠ 0 then -1 else if kd (crs b mv).toNat = 2 ∨ kd (crs b mv).toNat = 5 then 2 else 1
noncomputable def cmp_ (x y : Int) : Int := if x < y then -1 else if x = y then 0 else 1
noncomputable def gap_ (x y : Int) : Int := if x < y then y - x else x - y
/-- where the border is behind a day on which x and y are said -/
noncomputable def aft (s : Int) (kd : Nat → Int) (b day x y : Int) : Int := if rud s kd b (cmp_ y x) day = -1 ∨ gap_ x y < rud s kd b (cmp_ y x) day then b else b + cmp_ y x
noncomputable def crw (i b : Int) : Int := if i < b then 0 else 1
noncomputable def due (kd du : Nat → Int) (c i b rate : Int) : Int :=
  if kd i.toNat = 5 then (if b = i ∨ b = i + 1 then (du i.toNat * rate).tdiv 2 else 0) else if crw i b ≠ c then 0 else if kd i.toNat = 4 then 2 * (du i.toNat * rate) else if kd i.toNat = 1 then du i.toNat * rate else 0
theorem rud_r (s : Int) (kd : Nat → Int) (b mv day : Int) : -1 ≤ rud s kd b mv day ∧ rud s kd b mv day ≤ 2 := by
  unfold rud; repeat' split
  all_goals omega
theorem aft_r {s : Int} {kd : Nat → Int} {b day x y : Int} (hb : 0 ≤ b ∧ b ≤ s) : 0 ≤ aft s kd b day x y ∧ aft s kd b day x y ≤ s := by
  unfold aft
  split
  · exact hb
  · rename_i h
    have h1 : rud s kd b (cmp_ y x) day ≠ -1 := fun e => h (Or.inl e)
    have hc : cmp_ y x = -1 ∨ cmp_ y x = 0 ∨ cmp_ y x = 1 := by unfold cmp_; split <;> (try split) <;> omega
    unfold rud at h1
    split at h1
    · omega
    · split at h1
      · omega
      · rename_i h2
        unfold crs at h2
        split at h2 <;> omega
theorem mul9 {x y : Int} (hx : 0 ≤ x ∧ x ≤ 9) (hy : 0 ≤ y ∧ y ≤ 9) : 0 ≤ x * y ∧ x * y ≤ 81 := by
  refine ⟨Int.mul_nonneg hx.1 hy.1, ?_⟩
  have h1 : x * y ≤ 9 * y := Int.mul_le_mul_of_nonneg_right hx.2 hy.1
  omega
theorem due_r {kd du : Nat → Int} (hd : ∀ i, 0 ≤ du i ∧ du i ≤ 9) {c i b rate : Int} (hr : 0 ≤ rate ∧ rate ≤ 9) : 0 ≤ due kd du c i b rate ∧ due kd du c i b rate ≤ 162 := by
  have h1 := mul9 (hd i.toNat) hr
  have h2 : (du i.toNat * rate).tdiv 2 = (du i.toNat * rate) / 2 := Int.tdiv_eq_ediv_of_nonneg h1.1
  unfold due
  rw [h2]
  repeat' split
  all_goals omega
theorem tm2 {d : Int} (h : 0 ≤ d) : d.tmod 2 = d % 2 := Int.tmod_eq_emod_of_nonneg h
theorem sp_compare (x y : Int) (M : am_M) (hx : iR x) (hy : iR y) : X_J6_compare_7cf53 x y M = some (cmp_ x y, M) := by
  simp only [X_J6_compare_7cf53, wI_R hx, wI_R hy, cmp_]
  split
  · rfl
  · split <;> rfl
theorem sp_crownOf (i b : Int) (M : am_M) (hi : iR i) (hb : iR b) : X_X2_crownOf i b M = some (crw i b, M) := by
  simp only [X_X2_crownOf, wI_R hi, wI_R hb, crw]
  split <;> rfl
theorem sp_touches (i b : Int) (M : am_M) (hi : iR i) (hb : iR b) (hi2 : iR (i + 1)) : X_X2_touches i b M = some (b2 (b = i ∨ b = i + 1), M) := by
  simp only [X_X2_touches, wI_R hi, wI_R hb, wI_R hi2]
  split
  · rw [b2_t (by omega)]
  · split
    · rw [b2_t (by omega)]
    · rw [b2_f (by omega)]
/-- the strips at 11 -/
noncomputable def Gd11 (M : am_M) : Prop := 0 ≤ M 11 0 ∧ M 11 0 ≤ 12 ∧ (∀ i, 0 ≤ M 12 i ∧ M 12 i ≤ 5) ∧ ∀ i, 0 ≤ M 13 i ∧ M 13 i ≤ 9
theorem sp_has_11 {M : am_M} (h : Gd11 M) {i : Int} (hi : iR i) : X_X2_has_11 i M = some (b2 (0 ≤ i ∧ i < M 11 0), M) := by
  obtain ⟨h1, h2, -, -⟩ := h
  simp (disch := omega) only [X_X2_has_11, wI_R hi, wI_of (x := M 11 0)]
  split
  · rw [b2_f (by omega)]
  · split
    · rw [b2_t (by omega)]
    · rw [b2_f (by omega)]
theorem sp_rudeness_11 {M : am_M} (h : Gd11 M) {b mv day : Int} (hb : 0 ≤ b ∧ b ≤ M 11 0) (hm : -1 ≤ mv ∧ mv ≤ 1) (hd : 0 ≤ day ∧ day < 1000) : X_X2_rudeness_11 b mv day M = some (rud (M 11 0) (M 12) b mv day, M) := by
  obtain ⟨h1, h2, h3, -⟩ := h
  have hk : ∀ i, wI (M 12 i) = M 12 i := fun i => wI_of (by have := h3 i; omega) (by have := h3 i; omega)
  have ht : wI (day.tmod 2) = day % 2 := by rw [tm2 hd.1]; exact wI_of (by omega) (by omega)
  unfold rud crs
  rcases (show mv = -1 ∨ mv = 0 ∨ mv = 1 by omega) with rfl | rfl | rfl
  · simp only [X_X2_rudeness_11, show wI (-1) = -1 from rfl, show ¬ ((-1 : Int) = 0) by decide, show (-1 : Int) < 0 by decide, if_true, if_false, wI_of (x := b - 1) (by omega) (by omega), wI_of (x := M 11 0) (by omega) (by omega), wI_of (x := day) (by omega) (by omega), hk, ht]
    repeat' split
    all_goals first | rfl | (exfalso; omega) | simp_all
  · simp only [X_X2_rudeness_11, show wI 0 = 0 from rfl, if_true]
  · simp only [X_X2_rudeness_11, show wI 1 = 1 from rfl, show ¬ ((1 : Int) = 0) by decide, show ¬ (1 : Int) < 0 by decide, if_true, if_false, wI_of (x := b) (by omega) (by omega), wI_of (x := M 11 0) (by omega) (by omega), wI_of (x := day) (by omega) (by omega), hk, ht]
    repeat' split
    all_goals first | rfl | (exfalso; omega) | simp_all
theorem sp_borderAfter_11 {M : am_M} (h : Gd11 M) {b day x y : Int} (hb : 0 ≤ b ∧ b ≤ M 11 0) (hd : 0 ≤ day ∧ day < 1000) (hx : 0 ≤ x ∧ x ≤ 3) (hy : 0 ≤ y ∧ y ≤ 3) : X_X2_borderAfter_11 b day x y M = some (aft (M 11 0) (M 12) b day x y, M) := by
  have hc : -1 ≤ cmp_ y x ∧ cmp_ y x ≤ 1 := by unfold cmp_; repeat' split
                                               all_goals omega
  have hr := rud_r (M 11 0) (M 12) b (cmp_ y x) day
  have hg : (if 0 ≤ wI (x - y) then x - y else 0 - (x - y)) = gap_ x y := by
    rw [wI_of (by omega) (by omega)]
    unfold gap_
    split <;> split <;> omega
  have hgr : 0 ≤ gap_ x y ∧ gap_ x y ≤ 3 := by unfold gap_; split <;> omega
  simp only [X_X2_borderAfter_11, sp_compare y x M (by unfold iR; omega) (by unfold iR; omega), ob, sp_rudeness_11 h hb hc hd, hg, wI_of (x := rud (M 11 0) (M 12) b (cmp_ y x) day) (by omega) (by omega), wI_of (x := gap_ x y) (by omega) (by omega), aft]
  by_cases c1 : rud (M 11 0) (M 12) b (cmp_ y x) day = -1
  · rw [if_pos c1, if_pos (Or.inl c1)]
  · rw [if_neg c1]
    by_cases c2 : gap_ x y < rud (M 11 0) (M 12) b (cmp_ y x) day
    · rw [if_pos c2, if_pos (Or.inr c2)]
    · rw [if_neg c2, if_neg (by omega)]
theorem sp_kindOf_11 {M : am_M} (h : Gd11 M) {i : Int} (hi : iR i) : X_X2_kindOf_11 i M = some (if 0 ≤ i ∧ i < M 11 0 then M 12 i.toNat else 0, M) := by
  have h2 := h.2.1
  by_cases c : 0 ≤ i ∧ i < M 11 0
  · simp only [X_X2_kindOf_11, sp_has_11 h hi, b2_t c, ob, show wI 1 = 1 from rfl, show ¬ ((1 : Int) = 0) by decide, if_false, wI_R hi, if_pos c]
    rw [if_pos (by omega)]
  · simp only [X_X2_kindOf_11, sp_has_11 h hi, b2_f c, ob, show wI 0 = 0 from rfl, if_true, if_neg c]
theorem sp_dueOf_11 {M : am_M} (h : Gd11 M) {i : Int} (hi : iR i) : X_X2_dueOf_11 i M = some (if 0 ≤ i ∧ i < M 11 0 then M 13 i.toNat else 0, M) := by
  have h2 := h.2.1
  by_cases c : 0 ≤ i ∧ i < M 11 0
  · simp only [X_X2_dueOf_11, sp_has_11 h hi, b2_t c, ob, show wI 1 = 1 from rfl, show ¬ ((1 : Int) = 0) by decide, if_false, wI_R hi, if_pos c]
    rw [if_pos (by omega)]
  · simp only [X_X2_dueOf_11, sp_has_11 h hi, b2_f c, ob, show wI 0 = 0 from rfl, if_true, if_neg c]
theorem sp_dueTo_11 {M : am_M} (h : Gd11 M) {c i b rate : Int} (hc : 0 ≤ c ∧ c ≤ 1) (hi : 0 ≤ i ∧ i < M 11 0) (hb : 0 ≤ b ∧ b ≤ 12) (hr : 0 ≤ rate ∧ rate ≤ 9) : X_X2_dueTo_11 c i b rate M = some (due (M 12) (M 13) c i b rate, M) := by
  obtain ⟨h1, h2, h3, h4⟩ := id h
  have hiR : iR i := by unfold iR; omega
  have hk := h3 i.toNat
  have hm := mul9 (h4 i.toNat) hr
  have hcr : 0 ≤ crw i b ∧ crw i b ≤ 1 := by unfold crw; split <;> omega
  simp only [X_X2_dueTo_11, sp_kindOf_11 h hiR, sp_dueOf_11 h hiR, if_pos hi, ob, sp_touches i b M hiR (by unfold iR; omega) (by unfold iR; omega), sp_crownOf i b M hiR (by unfold iR; omega), b2_w, b2_0, wI_of (x := M 12 i.toNat) (by omega) (by omega), wI_of (x := M 13 i.toNat * rate) (by omega) (by omega), wI_of (x := crw i b) (by omega) (by omega), wI_of (x := c) (by omega) (by omega), due, ite_not']
  by_cases k5 : M 12 i.toNat = 5
  · simp only [if_pos k5]
    split <;> rfl
  · simp only [if_neg k5]
    by_cases kc : crw i b = c
    · simp only [if_pos kc, ne_eq, kc, not_true_eq_false, if_false]
      repeat' split
      all_goals rfl
    · simp only [ne_eq, kc, not_false_eq_true, if_true, if_false]
end
section
/-! The reference's smallest functions. -/
theorem b2_c {p q : Prop} [Decidable p] [Decidable q] (h : p ↔ q) : b2 p = b2 q := by
  by_cases hp : p
  · rw [b2_t hp, b2_t (h.mp hp)]
  · rw [b2_f hp, b2_f (fun x => hp (h.mpr x))]
theorem lc_lt (x y : Int) : (wI (c_lcmp x y) < 0) = (wL x < wL y) := by
  apply propext
  unfold c_lcmp
  split
  · rw [show wI 1 = 1 from rfl]; omega
  · split
    · rw [show wI 0 = 0 from rfl]; omega
    · rw [show wI (-1) = -1 from rfl]; omega
theorem lc_gt (x y : Int) : (0 < wI (c_lcmp x y)) = (wL y < wL x) := by
  apply propext
  unfold c_lcmp
  split
  · rw [show wI 1 = 1 from rfl]; omega
  · split
    · rw [show wI 0 = 0 from rfl]; omega
    · rw [show wI (-1) = -1 from rfl]; omega
theorem lc_eq (x y : Int) : (wI (c_lcmp x y) = 0) = (wL x = wL y) := by
  apply propext
  unfold c_lcmp
  split
  · rw [show wI 1 = 1 from rfl]; omega
  · split
    · rw [show wI 0 = 0 from rfl]; omega
    · rw [show wI (-1) = -1 from rfl]; omega
theorem wL_R {x : Int} (h : iR x) : wL x = x := wL_of (by have := h.1; omega) (by have := h.2; omega)
theorem iR_w (x : Int) : iR (wI x) := ⟨wI_lo x, wI_hi x⟩
theorem sp_in {v lo hi : Int} (M : am_M) (h1 : iR v) (h2 : iR lo) (h3 : iR hi) : X_X9_in v lo hi M = some (b2 (lo ≤ v ∧ v ≤ hi), M) := by
  simp only [X_X9_in, lc_lt, lc_gt, wL_R h1, wL_R h2, wL_R h3]
  split
  · rw [b2_f (by omega)]
  · split
    · rw [b2_f (by omega)]
    · rw [b2_t (by omega)]
theorem sp_isRow {r : Int} (M : am_M) (hr : iR r) : X_X9_isRow r M = some (b2 (0 ≤ r ∧ r < 6), M) := by
  simp only [X_X9_isRow, wI_R hr, sp_in M hr (by unfold iR; omega : iR 0) (by unfold iR; omega : iR 5), ob, b2_01, if_true]
  rw [b2_c (by omega : (0 ≤ r ∧ r ≤ 5) ↔ (0 ≤ r ∧ r < 6))]
theorem sp_isText {r : Int} (M : am_M) (hr : iR r) : X_X9_isText r M = some (b2 (0 ≤ r ∧ r < 4), M) := by
  simp only [X_X9_isText, wI_R hr, sp_in M hr (by unfold iR; omega : iR 0) (by unfold iR; omega : iR 3), ob, b2_01, if_true]
  rw [b2_c (by omega : (0 ≤ r ∧ r ≤ 3) ↔ (0 ≤ r ∧ r < 4))]
theorem sp_isSaid {r : Int} (M : am_M) (hr : iR r) : X_X9_isSaid r M = some (b2 (0 ≤ r ∧ r ≤ 3), M) := by
  simp only [X_X9_isSaid, wI_R hr, sp_in M hr (by unfold iR; omega : iR 0) (by unfold iR; omega : iR 3), ob, b2_01, if_true]
theorem sp_isStrip {i : Int} {M : am_M} (hs : 0 ≤ M 53 1 ∧ M 53 1 ≤ 12) (hi : iR i) : X_X9_isStrip_53 i M = some (b2 (0 ≤ i ∧ i < M 53 1), M) := by
  simp only [X_X9_isStrip_53, wI_R hi, wI_of (x := M 53 1 - 1) (by omega) (by omega), sp_in M hi (by unfold iR; omega : iR 0) (by unfold iR; omega : iR (M 53 1 - 1)), ob, b2_01, if_true]
  rw [b2_c (by omega : (0 ≤ i ∧ i ≤ M 53 1 - 1) ↔ (0 ≤ i ∧ i < M 53 1))]
theorem sp_isPlace {i : Int} {M : am_M} (hs : 0 ≤ M 53 1 ∧ M 53 1 ≤ 12) (hi : iR i) : X_X9_isPlace_53 i M = some (b2 (0 ≤ i ∧ i ≤ M 53 1), M) := by
  simp only [X_X9_isPlace_53, wI_R hi, wI_of (x := M 53 1) (by omega) (by omega), sp_in M hi (by unfold iR; omega : iR 0) (by unfold iR; omega : iR (M 53 1)), ob, b2_01, if_true]
/-- findings and what is told, on both sides -/
noncomputable def cF (f : Nat) (M : am_M) : am_M := am_up (am_up M 0 12 f) 52 f (M 52 f + 1)
noncomputable def mF (f : Nat) (M : am_M) : am_M := am_up (am_up M 53 11 f) 61 f (M 61 f + 1)
noncomputable def cT (v : Int) (M : am_M) : am_M := am_up M 0 13 v
noncomputable def mT (v : Int) (M : am_M) : am_M := am_up M 53 8 v
theorem sp_find_0 {f : Nat} (hf : 1 ≤ f ∧ f ≤ 5) (M : am_M) : X_X8_find_0 (f : Int) M = some (-3, cF f M) := by
  simp (disch := omega) only [X_X8_find_0, wI_of, if_pos, if_neg, Int.toNat_natCast, up_a (show 52 ≠ 0 by decide), cF]
theorem sp_find_53 {f : Nat} (hf : 1 ≤ f ∧ f ≤ 5) (M : am_M) : X_X9_find_53 (f : Int) M = some (-3, mF f M) := by
  simp (disch := omega) only [X_X9_find_53, wI_of, if_pos, Int.toNat_natCast, up_a (show 61 ≠ 53 by decide), mF]
theorem sp_tell_0 (v : Int) (M : am_M) : X_X8_tell_0 v M = some (1, cT v M) := rfl
theorem sp_tell_53 (v : Int) (M : am_M) : X_X9_tell_53 v M = some (1, mT v M) := rfl
end
section
/-! The reference's arithmetic of the land. -/
theorem rud_c {s : Int} {kd kd' : Nat → Int} (h : ∀ i : Nat, (i : Int) < s → kd' i = kd i) (b mv day : Int) : rud s kd' b mv day = rud s kd b mv day := by
  unfold rud
  split
  · rfl
  · split
    · rfl
    · rename_i h2
      rw [h _ (by omega)]
theorem aft_c {s : Int} {kd kd' : Nat → Int} (h : ∀ i : Nat, (i : Int) < s → kd' i = kd i) (b day x y : Int) : aft s kd' b day x y = aft s kd b day x y := by
  unfold aft; rw [rud_c h]
theorem due_c {kd kd' du du' : Nat → Int} {i : Int} (h1 : kd' i.toNat = kd i.toNat) (h2 : du' i.toNat = du i.toNat) (c b rate : Int) : due kd' du' c i b rate = due kd du c i b rate := by
  unfold due; rw [h1, h2]
/-- the reference's strips -/
noncomputable def GdM (M : am_M) : Prop := 0 ≤ M 53 1 ∧ M 53 1 ≤ 12 ∧ (∀ i, 0 ≤ M 55 i ∧ M 55 i ≤ 5) ∧ ∀ i, 0 ≤ M 56 i ∧ M 56 i ≤ 9
theorem sp_isWall {v : Int} (M : am_M) (hv : iR v) : X_X9_isWall v M = some (b2 (v = 2 ∨ v = 5), M) := by
  simp only [X_X9_isWall, wI_R hv]
  split
  · rw [b2_t (by omega)]
  · split
    · rw [b2_t (by omega)]
    · rw [b2_f (by omega)]
theorem sp_isAt {b i : Int} (M : am_M) (hb : iR b) (hi : iR i) (hi2 : iR (i + 1)) : X_X9_isAt b i M = some (b2 (b = i ∨ b = i + 1), M) := by
  simp only [X_X9_isAt, wI_R hb, wI_R hi, wI_R hi2]
  split
  · rw [b2_t (by omega)]
  · split
    · rw [b2_t (by omega)]
    · rw [b2_f (by omega)]
theorem sp_isTaxed {d : Int} (M : am_M) (hd : 0 ≤ d ∧ d < 1000) : X_X9_isTaxed d M = some (b2 (d % 10 = 9 ∧ d < 40), M) := by
  have ht : wI (d.tmod 10) = d % 10 := by rw [Int.tmod_eq_emod_of_nonneg hd.1]; exact wI_of (by omega) (by omega)
  simp only [X_X9_isTaxed, wI_of (x := d) (by omega) (by omega), ht]
  split
  · split
    · rw [b2_t (by omega)]
    · rw [b2_f (by omega)]
  · rw [b2_f (by omega)]
theorem sp_behind {M : am_M} (h : GdM M) {b day x y : Int} (hb : 0 ≤ b ∧ b ≤ M 53 1) (hd : 0 ≤ day ∧ day < 1000) (hx : 0 ≤ x ∧ x ≤ 3) (hy : 0 ≤ y ∧ y ≤ 3) : X_X9_behind_53 b day x y M = some (aft (M 53 1) (M 55) b day x y, M) := by
  obtain ⟨h1, h2, h3, -⟩ := h
  have hk : ∀ i, wI (M 55 i) = M 55 i := fun i => wI_of (by have := h3 i; omega) (by have := h3 i; omega)
  have hkR : ∀ i, iR (M 55 i) := fun i => ⟨by have := h3 i; omega, by have := h3 i; omega⟩
  have ht : wI (day.tmod 2) = day % 2 := by rw [tm2 hd.1]; exact wI_of (by omega) (by omega)
  rcases (show y < x ∨ x = y ∨ x < y by omega) with hc | hc | hc
  · have e1 : cmp_ y x = -1 := if_pos hc
    have e2 : gap_ x y = x - y := if_neg (by omega)
    have e3 : crs b (-1) = b - 1 := rfl
    simp only [X_X9_behind_53, wI_of (x := x) (by omega) (by omega), wI_of (x := y) (by omega) (by omega), if_pos hc, wI_of (x := x - y) (by omega) (by omega), if_neg (show ¬ x - y = 0 by omega), sp_isStrip ⟨h1, h2⟩ (show iR (b - 1) by unfold iR; omega), ob, b2_w, b2_0, wI_of (x := b - 1) (by omega) (by omega), hk, sp_isWall M (hkR _), wI_of (x := day) (by omega) (by omega), ht, aft, e1, e2, rud, e3, ite_not']
    by_cases q1 : 0 ≤ b - 1 ∧ b - 1 < M 53 1
    · have q2 := h3 (b - 1).toNat
      simp only [if_pos q1, if_pos (show 0 ≤ b - 1 ∧ b - 1 < 12 by omega), show ¬ ((-1 : Int) = 0) by decide, if_false, if_neg (show ¬ (b - 1 < 0 ∨ M 53 1 ≤ b - 1) by omega)]
      repeat' split
      all_goals first | rfl | (exfalso; omega) | (congr 2; omega) | simp_all
    · simp only [if_neg q1, show ¬ ((-1 : Int) = 0) by decide, if_false, if_pos (show b - 1 < 0 ∨ M 53 1 ≤ b - 1 by omega)]
      simp
  · subst hc
    have e1 : cmp_ x x = 0 := by unfold cmp_; simp
    simp only [X_X9_behind_53, wI_of (x := x) (by omega) (by omega), show ¬ x < x by omega, if_false, Int.sub_self, show wI 0 = 0 from rfl, if_true, aft, e1, rud, Int.add_zero, ite_self]
  · have e1 : cmp_ y x = 1 := by unfold cmp_; rw [if_neg (by omega), if_neg (by omega)]
    have e2 : gap_ x y = y - x := if_pos hc
    have e3 : crs b 1 = b := rfl
    simp only [X_X9_behind_53, wI_of (x := x) (by omega) (by omega), wI_of (x := y) (by omega) (by omega), if_neg (show ¬ y < x by omega), wI_of (x := y - x) (by omega) (by omega), if_neg (show ¬ y - x = 0 by omega), sp_isStrip ⟨h1, h2⟩ (show iR b by unfold iR; omega), ob, b2_w, b2_0, wI_of (x := b) (by omega) (by omega), hk, sp_isWall M (hkR _), wI_of (x := day) (by omega) (by omega), ht, aft, e1, e2, rud, e3, ite_not']
    by_cases q1 : 0 ≤ b ∧ b < M 53 1
    · have q2 := h3 b.toNat
      simp only [if_pos q1, if_pos (show 0 ≤ b ∧ b < 12 by omega), show ¬ ((1 : Int) = 0) by decide, if_false, if_neg (show ¬ (b < 0 ∨ M 53 1 ≤ b) by omega)]
      repeat' split
      all_goals first | rfl | (exfalso; omega) | (congr 2; omega) | simp_all
    · simp only [if_neg q1, show ¬ ((1 : Int) = 0) by decide, if_false, if_pos (show b < 0 ∨ M 53 1 ≤ b by omega)]
      simp
theorem sp_paysTo {M : am_M} (h : GdM M) {c i b rate : Int} (hc : 0 ≤ c ∧ c ≤ 1) (hi : 0 ≤ i ∧ i < 12) (hb : 0 ≤ b ∧ b ≤ 12) (hr : 0 ≤ rate ∧ rate ≤ 9) : X_X9_paysTo_53 i c b rate M = some (due (M 55) (M 56) c i b rate, M) := by
  obtain ⟨h1, h2, h3, h4⟩ := h
  have hk := h3 i.toNat
  have hm := mul9 (h4 i.toNat) hr
  simp only [X_X9_paysTo_53, wI_of (x := i) (by omega) (by omega), wI_of (x := b) (by omega) (by omega), wI_of (x := c) (by omega) (by omega), wI_of (x := M 55 i.toNat) (by omega) (by omega), wI_of (x := M 56 i.toNat * rate) (by omega) (by omega), if_pos hi, sp_isAt M (show iR b by unfold iR; omega) (show iR i by unfold iR; omega) (show iR (i + 1) by unfold iR; omega), ob, b2_w, b2_0, ite_not', due, crw, Int.reduceAdd]
  rcases (show c = 0 ∨ c = 1 by omega) with rfl | rfl
  · by_cases q : i < b
    · simp only [if_pos q, if_true, ne_eq, not_true_eq_false, if_false]
      repeat' split
      all_goals first | rfl | (exfalso; omega)
    · simp only [if_neg q, show ¬ ((1 : Int) = 0) by decide, ne_eq, not_false_eq_true, if_true, if_false]
      repeat' split
      all_goals first | rfl | (exfalso; omega)
  · by_cases q : i < b
    · simp only [if_pos q, show ¬ ((0 : Int) = 1) by decide, ne_eq, not_false_eq_true, if_true, if_false]
      repeat' split
      all_goals first | rfl | (exfalso; omega)
    · simp only [if_neg q, if_true, ne_eq, not_true_eq_false, if_false]
      repeat' split
      all_goals first | rfl | (exfalso; omega)
end
section
/-! What holds between the class and the reference, between any two calls. -/
noncomputable def tot (kd du h R : Nat → Int) (c : Int) (i : Nat) : Nat → Int
  | 0 => 0
  | t + 1 => tot kd du h R c i t + due kd du c i (h (10 * t + 10)) (if c = 0 then R (10 * t + 9) / 10 else R (10 * t + 9) % 10)
noncomputable def chg (h : Nat → Int) (i : Int) : Nat → Int
  | 0 => 0
  | n + 1 => chg h i n + (if crw i (h n) = crw i (h (n + 1)) then 0 else 1)
noncomputable def CnI (a1 a4 : Nat → Int) : Prop := a1 0 = 6 ∧ a1 1 = 40 ∧ a1 2 = 0 ∧ a4 0 = 4 ∧ a4 1 = 60 ∧ a4 2 = 32
noncomputable def RwI (a2 a3 a57 a58 : Nat → Int) : Prop := a57 = a2 ∧ (∀ r, -1 ≤ a2 r ∧ a2 r ≤ 40) ∧ (∀ j, iR (a3 j)) ∧ ∀ r i : Nat, r < 6 → (i : Int) < a2 r → a58 (40 * r + i) = a3 (40 * r + i)
noncomputable def TxI (a5 a6 a59 a60 : Nat → Int) : Prop := a59 = a5 ∧ (∀ r, -1 ≤ a5 r ∧ a5 r ≤ 60) ∧ (∀ j, -128 ≤ a6 j ∧ a6 j ≤ 127) ∧ ∀ r i : Nat, r < 4 → (i : Int) < a5 r → a60 (60 * r + i) = a6 (60 * r + i)
noncomputable def GrI (a9 a10 : Nat → Int) (s : Int) (kd du : Nat → Int) (s' : Int) (kd' du' : Nat → Int) : Prop := s' = s ∧ (s = 0 ∨ 2 ≤ s) ∧ s ≤ 12 ∧ (∀ i, 0 ≤ kd i ∧ kd i ≤ 5) ∧ (∀ i, 0 ≤ du i ∧ du i ≤ 9) ∧ (∀ i, 0 ≤ kd' i ∧ kd' i ≤ 5) ∧ (∀ i, 0 ≤ du' i ∧ du' i ≤ 9) ∧ (∀ i : Nat, (i : Int) < s → kd' i = kd i ∧ du' i = du i) ∧ (∀ i, 0 ≤ a9 i ∧ a9 i ≤ 5) ∧ (∀ i, 0 ≤ a10 i ∧ a10 i ≤ 9)
/-- days: the numbers o, what was said a b, the border ahead h, the rates of each day R -/
noncomputable def DyO (s : Int) (o L : Nat → Int) (z : Nat) : Prop := L z = o 0 ∧ (0 ≤ o 0 ∧ o 0 ≤ 40) ∧ L (z + 1) = o 1 ∧ (0 ≤ o 1 ∧ o 1 ≤ s) ∧ L (z + 2) = o 2 ∧ L (z + 3) = o 3 ∧ (0 ≤ o 2 ∧ o 2 ≤ 9) ∧ (0 ≤ o 3 ∧ o 3 ≤ 9) ∧ (s = 0 → o 0 = 0)
noncomputable def DyS (d : Int) (a b L : Nat → Int) (z : Nat) : Prop := (∀ j, (0 ≤ a j ∧ a j ≤ 3) ∧ (0 ≤ b j ∧ b j ≤ 3)) ∧ ∀ j : Nat, (j : Int) < d → L (z + 40 + j) = 4 * a j + b j ∧ 0 ≤ L (z + 80 + j) ∧ L (z + 80 + j) ≤ 99
noncomputable def DyH (s : Int) (kd : Nat → Int) (d e : Int) (a b h : Nat → Int) (f : Int) : Prop := h 0 = f ∧ h d.toNat = e ∧ (∀ j, 0 ≤ h j ∧ h j ≤ 12) ∧ (∀ j : Nat, (j : Int) ≤ d → h j ≤ s) ∧ ∀ j : Nat, (j : Int) < d → h (j + 1) = aft s kd (h j) j (a j) (b j)
noncomputable def DyP (s : Int) (kd du : Nat → Int) (d : Int) (h p R : Nat → Int) : Prop := (∀ j, 0 ≤ p j ∧ p j ≤ 162) ∧ ∀ t i : Nat, 10 * (t : Int) + 10 ≤ d → (i : Int) < s → p ((t * 12 + i) * 2) = due kd du 0 i (h (10 * t + 10)) (R (10 * t + 9) / 10) ∧ p ((t * 12 + i) * 2 + 1) = due kd du 1 i (h (10 * t + 10)) (R (10 * t + 9) % 10)
noncomputable def DyT (s : Int) (kd du : Nat → Int) (d : Int) (h L : Nat → Int) (z : Nat) : Prop := ∀ i : Nat, (i : Int) < s → L (z + 4 + 3 * i) = tot kd du h (fun j => L (z + 80 + j)) 0 i (d / 10).toNat ∧ L (z + 4 + 3 * i + 1) = tot kd du h (fun j => L (z + 80 + j)) 1 i (d / 10).toNat ∧ L (z + 4 + 3 * i + 2) = chg h i d.toNat
noncomputable def DI (s : Int) (kd du o a b h p L : Nat → Int) (z : Nat) : Prop := DyO s o L z ∧ DyS (o 0) a b L z ∧ DyH s kd (o 0) (o 1) a b h (L (z + 120)) ∧ DyP s kd du (o 0) h p (fun j => L (z + 80 + j)) ∧ DyT s kd du (o 0) h L z
/-- what holds of a kept land's rows, kept or not -/
noncomputable def KB (a b h p : Nat → Int) : Prop := ∀ j, (0 ≤ a j ∧ a j ≤ 3) ∧ (0 ≤ b j ∧ b j ≤ 3) ∧ (0 ≤ h j ∧ h j ≤ 12) ∧ 0 ≤ p j ∧ p j ≤ 162
noncomputable def KpI (s : Int) (kd du k : Nat → Int) (o a b h p L : Nat → Int) (j z : Nat) : Prop := L z = k j ∧ -1 ≤ k j ∧ k j ≤ 40 ∧ (0 ≤ k j → o 0 = k j ∧ DI s kd du o a b h p L z) ∧ KB a b h p
noncomputable def TlI (x f m f' : Nat → Int) : Prop := m 11 = x 12 ∧ m 8 = x 13 ∧ m 9 = x 14 ∧ m 10 = x 15 ∧ f' = f
noncomputable def Inv (M : am_M) : Prop := CnI (M 1) (M 4) ∧ RwI (M 2) (M 3) (M 57) (M 58) ∧ TxI (M 5) (M 6) (M 59) (M 60) ∧ GrI (M 9) (M 10) (M 11 0) (M 12) (M 13) (M 53 1) (M 55) (M 56) ∧ DI (M 11 0) (M 12) (M 13) (M 14) (M 15) (M 16) (M 17) (M 18) (M 54) 0 ∧
  (KpI (M 11 0) (M 12) (M 13) (M 35) (M 20) (M 21) (M 22) (M 23) (M 24) (M 54) 0 121 ∧ KpI (M 11 0) (M 12) (M 13) (M 35) (M 25) (M 26) (M 27) (M 28) (M 29) (M 54) 1 242 ∧ KpI (M 11 0) (M 12) (M 13) (M 35) (M 30) (M 31) (M 32) (M 33) (M 34) (M 54) 2 363) ∧ TlI (M 0) (M 52) (M 53) (M 61)
noncomputable def Step (X Y : am_M → am_Rs) (M : am_M) : Prop := ∃ v w M1 M2, X M = some (v, M1) ∧ Y M1 = some (w, M2) ∧ wI v = wI w ∧ Inv M2
noncomputable def StepL (X Y : am_M → am_Rs) (M : am_M) : Prop := ∃ v w M1 M2, X M = some (v, M1) ∧ Y M1 = some (w, M2) ∧ wL v = wL w ∧ Inv M2
theorem Inv.sh1 {M : am_M} (I : Inv M) : Sh1 M := ⟨I.1.1, I.1.2.1, I.1.2.2.1, I.2.1.2.1⟩
theorem Inv.sh4 {M : am_M} (I : Inv M) : Sh4 M := ⟨I.1.2.2.2.1, I.1.2.2.2.2.1, I.1.2.2.2.2.2, I.2.2.1.2.1⟩
theorem Inv.g11 {M : am_M} (I : Inv M) : Gd11 M := ⟨by have := I.2.2.2.1.2.1; omega, I.2.2.2.1.2.2.1, I.2.2.2.1.2.2.2.1, I.2.2.2.1.2.2.2.2.1⟩
theorem Inv.gM {M : am_M} (I : Inv M) : GdM M := ⟨by have := I.2.2.2.1.1; have := I.2.2.2.1.2.1; omega, by have := I.2.2.2.1.1; have := I.2.2.2.1.2.2.1; omega, I.2.2.2.1.2.2.2.2.2.1, I.2.2.2.1.2.2.2.2.2.2.1⟩
theorem inv_find {M : am_M} (I : Inv M) (f : Nat) : Inv (mF f (cF f M)) := by
  obtain ⟨h1, h2, h3, h4, h5, h6, t1, t2, t3, t4, t5⟩ := I
  refine ⟨h1, h2, h3, h4, h5, h6, rfl, t2, t3, t4, ?_⟩
  show (mF f (cF f M)) 61 = (mF f (cF f M)) 52
  funext j
  show (if j = f then M 61 f + 1 else M 61 j) = (if j = f then M 52 f + 1 else M 52 j)
  rw [t5]
theorem inv_tell {M : am_M} (I : Inv M) (v : Int) : Inv (mT v (cT v M)) := by
  obtain ⟨h1, h2, h3, h4, h5, h6, t1, t2, t3, t4, t5⟩ := I
  exact ⟨h1, h2, h3, h4, h5, h6, t1, rfl, t3, t4, t5⟩
theorem st_same {X Y : am_M → am_Rs} {M : am_M} (I : Inv M) {v w : Int} (h1 : X M = some (v, M)) (h2 : Y M = some (w, M)) (h : wI v = wI w) : Step X Y M := ⟨v, w, M, M, h1, h2, h, I⟩
theorem st_find {X Y : am_M → am_Rs} {M : am_M} (I : Inv M) {f : Nat} (h1 : X M = some (-3, cF f M)) (h2 : Y (cF f M) = some (-3, mF f (cF f M))) : Step X Y M := ⟨_, _, _, _, h1, h2, rfl, inv_find I f⟩
theorem st_tell {X Y : am_M → am_Rs} {M : am_M} (I : Inv M) {v w : Int} (h : v = w) (h1 : X M = some (1, cT v M)) (h2 : Y (cT v M) = some (1, mT w (cT v M))) : Step X Y M := by subst h; exact ⟨_, _, _, _, h1, h2, rfl, inv_tell I v⟩
theorem w1 : wI 1 = 1 := rfl
theorem wm1 : wI (-1) = -1 := rfl
theorem n10 : ((1 : Int) = 0) = False := by simp
theorem eq_asked {M : am_M} (I : Inv M) : Step X_X8_asked_0 X_X9_asked_53 M := st_same I (v := M 0 13) (w := M 53 8) rfl rfl (by rw [I.2.2.2.2.2.2.2.1])
theorem eq_finding {M : am_M} (I : Inv M) : Step X_X8_finding_0 X_X9_finding_53 M := st_same I (v := M 0 12) (w := M 53 11) rfl rfl (by rw [I.2.2.2.2.2.2.1])
theorem eq_upper {M : am_M} (I : Inv M) : StepL X_X8_upper_0 X_X9_upper_53 M := ⟨M 0 14, M 53 9, M, M, rfl, rfl, by rw [I.2.2.2.2.2.2.2.2.1], I⟩
theorem eq_lower {M : am_M} (I : Inv M) : StepL X_X8_lower_0 X_X9_lower_53 M := ⟨M 0 15, M 53 10, M, M, rfl, rfl, by rw [I.2.2.2.2.2.2.2.2.2.1], I⟩
theorem eq_findings {M : am_M} (I : Inv M) {f : Int} (hf : iR f) : Step (X_X8_findings_0 f) (X_X9_findings_53 f) M := by
  have t5 := I.2.2.2.2.2.2.2.2.2.2
  by_cases c : 1 ≤ f ∧ f ≤ 5
  · refine st_same I (v := M 52 f.toNat) (w := M 61 f.toNat) ?_ ?_ (by rw [t5])
    · simp (disch := omega) only [X_X8_findings_0, wI_R hf, if_pos, if_neg]
    · simp (disch := omega) only [X_X9_findings_53, wI_R hf, sp_in M hf (by unfold iR; omega : iR 1) (by unfold iR; omega : iR 5), b2_t c, ob, w1, n10, if_false, if_pos]
  · refine st_same I (v := -1) (w := -1) ?_ ?_ rfl
    · by_cases c2 : f < 1
      · simp (disch := omega) only [X_X8_findings_0, wI_R hf, if_pos]
      · simp (disch := omega) only [X_X8_findings_0, wI_R hf, if_pos, if_neg]
    · simp (disch := omega) only [X_X9_findings_53, wI_R hf, sp_in M hf (by unfold iR; omega : iR 1) (by unfold iR; omega : iR 5), b2_f c, ob, wI_0, if_true]
end
section
/-! Rows and texts. -/
theorem f_c1 (M : am_M) : X_X8_find_0 1 M = some (-3, cF 1 M) := sp_find_0 (f := 1) (by decide) M
theorem f_m1 (M : am_M) : X_X9_find_53 1 M = some (-3, mF 1 M) := sp_find_53 (f := 1) (by decide) M
theorem f_c2 (M : am_M) : X_X8_find_0 2 M = some (-3, cF 2 M) := sp_find_0 (f := 2) (by decide) M
theorem f_m2 (M : am_M) : X_X9_find_53 2 M = some (-3, mF 2 M) := sp_find_53 (f := 2) (by decide) M
theorem f_c3 (M : am_M) : X_X8_find_0 3 M = some (-3, cF 3 M) := sp_find_0 (f := 3) (by decide) M
theorem f_m3 (M : am_M) : X_X9_find_53 3 M = some (-3, mF 3 M) := sp_find_53 (f := 3) (by decide) M
theorem f_c4 (M : am_M) : X_X8_find_0 4 M = some (-3, cF 4 M) := sp_find_0 (f := 4) (by decide) M
theorem f_m4 (M : am_M) : X_X9_find_53 4 M = some (-3, mF 4 M) := sp_find_53 (f := 4) (by decide) M
theorem f_c5 (M : am_M) : X_X8_find_0 5 M = some (-3, cF 5 M) := sp_find_0 (f := 5) (by decide) M
theorem f_m5 (M : am_M) : X_X9_find_53 5 M = some (-3, mF 5 M) := sp_find_53 (f := 5) (by decide) M
theorem m3 : wI (-3) = -3 := rfl
theorem wI_2 : wI 2 = 2 := rfl
theorem n20 : ((2 : Int) = 0) = False := by simp
theorem nm10 : ((-1 : Int) = 0) = False := by simp
theorem nm30 : ((-3 : Int) = 0) = False := by simp
theorem i0 : iR 0 := by unfold iR; omega
theorem tn {a b : Int} {c : Nat} (ha : 0 ≤ a) (hb : 0 ≤ b) : ((c : Int) * a + b).toNat = c * a.toNat + b.toNat := by
  obtain ⟨x, rfl⟩ := Int.eq_ofNat_of_zero_le ha
  obtain ⟨y, rfl⟩ := Int.eq_ofNat_of_zero_le hb
  simp only [Int.toNat_natCast]
  omega
theorem tn40 {a b : Int} (ha : 0 ≤ a) (hb : 0 ≤ b) : (40 * a + b).toNat = 40 * a.toNat + b.toNat := by omega
theorem tn60 {a b : Int} (ha : 0 ≤ a) (hb : 0 ≤ b) : (60 * a + b).toNat = 60 * a.toNat + b.toNat := by omega
theorem sp_lacking_1 {M : am_M} (h : Sh1 M) {r i : Int} (hr : 0 ≤ r ∧ r < 6) (hi : iR i) : X_X8_lackingPlace_1 r i M = some (if M 2 r.toNat < 0 then 1 else if 0 ≤ i ∧ i < M 2 r.toNat then 0 else 2, M) := by
  by_cases c1 : 0 ≤ M 2 r.toNat
  · by_cases c2 : 0 ≤ i ∧ i < M 2 r.toNat
    · simp (disch := omega) only [X_X8_lackingPlace_1, sp_isThere_1 h hr, b2_t c1, ob, w1, n10, if_false, sp_hasPlace_1 h hr hi, b2_t c2, if_neg, if_pos]
    · simp (disch := omega) only [X_X8_lackingPlace_1, sp_isThere_1 h hr, b2_t c1, ob, w1, n10, if_false, sp_hasPlace_1 h hr hi, b2_f c2, wI_0, if_true, if_neg]
  · simp (disch := omega) only [X_X8_lackingPlace_1, sp_isThere_1 h hr, b2_f c1, ob, wI_0, if_true, if_pos]
theorem sp_lacking_4 {M : am_M} (h : Sh4 M) {r i : Int} (hr : 0 ≤ r ∧ r < 4) (hi : iR i) : X_X8_lackingPlace_4 r i M = some (if M 5 r.toNat < 0 then 1 else if 0 ≤ i ∧ i < M 5 r.toNat then 0 else 2, M) := by
  by_cases c1 : 0 ≤ M 5 r.toNat
  · by_cases c2 : 0 ≤ i ∧ i < M 5 r.toNat
    · simp (disch := omega) only [X_X8_lackingPlace_4, sp_isThere_4 h hr, b2_t c1, ob, w1, n10, if_false, sp_hasPlace_4 h hr hi, b2_t c2, if_neg, if_pos]
    · simp (disch := omega) only [X_X8_lackingPlace_4, sp_isThere_4 h hr, b2_t c1, ob, w1, n10, if_false, sp_hasPlace_4 h hr hi, b2_f c2, wI_0, if_true, if_neg]
  · simp (disch := omega) only [X_X8_lackingPlace_4, sp_isThere_4 h hr, b2_f c1, ob, wI_0, if_true, if_pos]
theorem sp_refused {M : am_M} (hs : ∀ r, -1 ≤ M 57 r ∧ M 57 r ≤ 40) {r i : Int} (hr : 0 ≤ r ∧ r < 6) (hi : iR i) : X_X9_refused_53 r i M = if M 57 r.toNat < 0 then some (-3, mF 1 M) else if 0 ≤ i ∧ i < M 57 r.toNat then some (0, M) else some (-3, mF 2 M) := by
  have h1 := hs r.toNat
  have hrR : iR r := by unfold iR; omega
  by_cases c1 : M 57 r.toNat < 0
  · simp (disch := omega) only [X_X9_refused_53, sp_isRow M hrR, b2_t hr, ob, w1, n10, if_false, wI_R hrR, wI_of (x := M 57 r.toNat), if_pos, f_m1]
  · by_cases c2 : 0 ≤ i ∧ i < M 57 r.toNat
    · simp (disch := omega) only [X_X9_refused_53, sp_isRow M hrR, b2_t hr, ob, w1, n10, if_false, wI_R hrR, wI_of (x := M 57 r.toNat), wI_of (x := M 57 r.toNat - 1), wI_R hi, sp_in M hi i0 (show iR (M 57 r.toNat - 1) by unfold iR; omega), b2_t (show 0 ≤ i ∧ i ≤ M 57 r.toNat - 1 by omega), if_pos, if_neg]
    · simp (disch := omega) only [X_X9_refused_53, sp_isRow M hrR, b2_t hr, ob, w1, n10, if_false, wI_R hrR, wI_of (x := M 57 r.toNat), wI_of (x := M 57 r.toNat - 1), wI_R hi, sp_in M hi i0 (show iR (M 57 r.toNat - 1) by unfold iR; omega), b2_f (show ¬ (0 ≤ i ∧ i ≤ M 57 r.toNat - 1) by omega), wI_0, if_true, if_pos, if_neg, f_m2]
theorem inv_rows {M M' : am_M} (I : Inv M) (hc : ∀ a, a ≠ 2 → a ≠ 3 → a ≠ 57 → a ≠ 58 → M' a = M a) (hr : RwI (M' 2) (M' 3) (M' 57) (M' 58)) : Inv M' := by
  unfold Inv
  rw [hc 1 (by decide) (by decide) (by decide) (by decide), hc 4 (by decide) (by decide) (by decide) (by decide), hc 5 (by decide) (by decide) (by decide) (by decide), hc 6 (by decide) (by decide) (by decide) (by decide), hc 59 (by decide) (by decide) (by decide) (by decide), hc 60 (by decide) (by decide) (by decide) (by decide)]
  rw [hc 9 (by decide) (by decide) (by decide) (by decide), hc 10 (by decide) (by decide) (by decide) (by decide), hc 11 (by decide) (by decide) (by decide) (by decide), hc 12 (by decide) (by decide) (by decide) (by decide), hc 13 (by decide) (by decide) (by decide) (by decide), hc 53 (by decide) (by decide) (by decide) (by decide), hc 55 (by decide) (by decide) (by decide) (by decide), hc 56 (by decide) (by decide) (by decide) (by decide)]
  rw [hc 14 (by decide) (by decide) (by decide) (by decide), hc 15 (by decide) (by decide) (by decide) (by decide), hc 16 (by decide) (by decide) (by decide) (by decide), hc 17 (by decide) (by decide) (by decide) (by decide), hc 18 (by decide) (by decide) (by decide) (by decide), hc 54 (by decide) (by decide) (by decide) (by decide), hc 35 (by decide) (by decide) (by decide) (by decide)]
  rw [hc 20 (by decide) (by decide) (by decide) (by decide), hc 21 (by decide) (by decide) (by decide) (by decide), hc 22 (by decide) (by decide) (by decide) (by decide), hc 23 (by decide) (by decide) (by decide) (by decide), hc 24 (by decide) (by decide) (by decide) (by decide), hc 25 (by decide) (by decide) (by decide) (by decide), hc 26 (by decide) (by decide) (by decide) (by decide), hc 27 (by decide) (by decide) (by decide) (by decide), hc 28 (by decide) (by decide) (by decide) (by decide), hc 29 (by decide) (by decide) (by decide) (by decide)]
  rw [hc 30 (by decide) (by decide) (by decide) (by decide), hc 31 (by decide) (by decide) (by decide) (by decide), hc 32 (by decide) (by decide) (by decide) (by decide), hc 33 (by decide) (by decide) (by decide) (by decide), hc 34 (by decide) (by decide) (by decide) (by decide), hc 0 (by decide) (by decide) (by decide) (by decide), hc 52 (by decide) (by decide) (by decide) (by decide), hc 61 (by decide) (by decide) (by decide) (by decide)]
  exact ⟨I.1, hr, I.2.2⟩
theorem eq_tear {M : am_M} (I : Inv M) {r : Int} (hr : iR r) : Step (X_X8_tear_0 r) (X_X9_tear_53 r) M := by
  have hS := I.sh1
  obtain ⟨e57, h2, h3, h4⟩ := I.2.1
  by_cases c : 0 ≤ r ∧ r < 6
  · have h1 := h2 r.toNat
    by_cases c1 : 0 ≤ M 2 r.toNat
    · refine ⟨1, 1, am_up M 2 r.toNat (-1), am_up (am_up M 2 r.toNat (-1)) 57 r.toNat (-1), ?_, ?_, rfl, ?_⟩
      · simp (disch := omega) only [X_X8_tear_0, sp_isNumber_1 hS hr, b2_t c, ob, w1, n10, if_false, sp_isThere_1 hS c, b2_t c1, X_X6_remove_1, wI_R hr, if_pos]
      · simp (disch := omega) only [X_X9_tear_53, sp_isRow _ hr, b2_t c, ob, w1, n10, if_false, wI_R hr, up_a (show 57 ≠ 2 by decide), e57, wI_of (x := M 2 r.toNat), if_neg, if_pos]
      · refine inv_rows I (fun a q1 q2 q3 q4 => by rw [up_a q3, up_a q1]) ?_
        refine ⟨?_, fun j => ?_, h3, fun q i hq hi => ?_⟩
        · show (fun j => if j = r.toNat then (-1 : Int) else M 57 j) = (fun j => if j = r.toNat then (-1 : Int) else M 2 j)
          rw [e57]
        · show -1 ≤ (if j = r.toNat then (-1 : Int) else M 2 j) ∧ (if j = r.toNat then (-1 : Int) else M 2 j) ≤ 40
          have := h2 j
          split <;> omega
        · have hi' : (i : Int) < (if q = r.toNat then (-1 : Int) else M 2 q) := hi
          split at hi'
          · omega
          · exact h4 q i hq hi'
    · refine st_find I (f := 1) ?_ ?_
      · simp (disch := omega) only [X_X8_tear_0, sp_isNumber_1 hS hr, b2_t c, ob, w1, n10, if_false, sp_isThere_1 hS c, b2_f c1, wI_0, if_true, f_c1]
      · simp (disch := omega) only [X_X9_tear_53, sp_isRow _ hr, b2_t c, ob, w1, n10, if_false, wI_R hr, cF, up_a (show 57 ≠ 52 by decide), up_a (show 57 ≠ 0 by decide), e57, wI_of (x := M 2 r.toNat), if_pos, f_m1]
  · refine st_same I (v := -1) (w := -1) ?_ ?_ rfl
    · simp only [X_X8_tear_0, sp_isNumber_1 hS hr, b2_f c, ob, wI_0, if_true]
    · simp only [X_X9_tear_53, sp_isRow _ hr, b2_f c, ob, wI_0, if_true]
theorem rw_up {a2 a3 a57 a58 : Nat → Int} (h : RwI a2 a3 a57 a58) (j : Nat) {v : Int} (hv : iR v) : RwI a2 (fun i => if i = j then v else a3 i) a57 (fun i => if i = j then v else a58 i) := by
  obtain ⟨e, h2, h3, h4⟩ := h
  refine ⟨e, h2, fun i => ?_, fun r i hr hi => ?_⟩
  · show iR (if i = j then v else a3 i)
    split
    · exact hv
    · exact h3 i
  · show (if 40 * r + i = j then v else a58 (40 * r + i)) = (if 40 * r + i = j then v else a3 (40 * r + i))
    rw [h4 r i hr hi]
theorem eq_at {M : am_M} (I : Inv M) {r i : Int} (hr : iR r) (hi : iR i) : Step (X_X8_at_0 r i) (X_X9_at_53 r i) M := by
  have hS := I.sh1
  obtain ⟨e57, h2, h3, h4⟩ := I.2.1
  by_cases c : 0 ≤ r ∧ r < 6
  · have h1 := h2 r.toNat
    by_cases c1 : M 2 r.toNat < 0
    · refine st_find I (f := 1) ?_ ?_
      · simp (disch := omega) only [X_X8_at_0, sp_isNumber_1 hS hr, b2_t c, ob, w1, n10, if_false, sp_lacking_1 hS c hi, if_pos c1, f_c1]
      · have hs : ∀ q, -1 ≤ (cF 1 M) 57 q ∧ (cF 1 M) 57 q ≤ 40 := fun q => by show -1 ≤ M 57 q ∧ M 57 q ≤ 40; rw [e57]; exact h2 q
        rw [X_X9_at_53, sp_refused hs c hi, if_pos (show (cF 1 M) 57 r.toNat < 0 by show M 57 r.toNat < 0; rw [e57]; exact c1), ob]
        simp only [m3, nm30, if_false]
    · by_cases c2 : 0 ≤ i ∧ i < M 2 r.toNat
      · have e40 := tn40 c.1 c2.1
        refine st_tell I (v := M 3 (40 * r + i).toNat) (w := M 58 (40 * r + i).toNat) (by rw [e40]; exact (h4 r.toNat i.toNat (by omega) (by omega)).symm) ?_ ?_
        · simp (disch := omega) only [X_X8_at_0, sp_isNumber_1 hS hr, b2_t c, ob, w1, n10, if_false, sp_lacking_1 hS c hi, if_neg c1, if_pos c2, wI_0, if_true, sp_get_1 hS c hi, sp_tell_0]
        · have hs : ∀ q, -1 ≤ (cT (M 3 (40 * r + i).toNat) M) 57 q ∧ (cT (M 3 (40 * r + i).toNat) M) 57 q ≤ 40 := fun q => by show -1 ≤ M 57 q ∧ M 57 q ≤ 40; rw [e57]; exact h2 q
          have q57 : (cT (M 3 (40 * r + i).toNat) M) 57 r.toNat = M 2 r.toNat := by show M 57 r.toNat = _; rw [e57]
          rw [X_X9_at_53, sp_refused hs c hi, q57, if_neg c1, if_pos c2, ob]
          simp (disch := omega) only [wI_0, if_true, wI_of, if_pos, sp_tell_53, ob]
          rfl
      · refine st_find I (f := 2) ?_ ?_
        · simp (disch := omega) only [X_X8_at_0, sp_isNumber_1 hS hr, b2_t c, ob, w1, n10, if_false, sp_lacking_1 hS c hi, if_neg c1, if_neg c2, wI_2, n20, f_c2]
        · have hs : ∀ q, -1 ≤ (cF 2 M) 57 q ∧ (cF 2 M) 57 q ≤ 40 := fun q => by show -1 ≤ M 57 q ∧ M 57 q ≤ 40; rw [e57]; exact h2 q
          have q57 : (cF 2 M) 57 r.toNat = M 2 r.toNat := by show M 57 r.toNat = _; rw [e57]
          rw [X_X9_at_53, sp_refused hs c hi, q57, if_neg c1, if_neg c2, ob]
          simp only [m3, nm30, if_false]
  · refine st_same I (v := -1) (w := -1) ?_ ?_ rfl
    · simp only [X_X8_at_0, sp_isNumber_1 hS hr, b2_f c, ob, wI_0, if_true]
    · simp only [X_X9_at_53, X_X9_refused_53, sp_isRow _ hr, b2_f c, ob, wI_0, if_true, wm1, nm10, if_false]
theorem eq_lay {M : am_M} (I : Inv M) {r i v : Int} (hr : iR r) (hi : iR i) (hv : iR v) : Step (X_X8_lay_0 r i v) (X_X9_lay_53 r i v) M := by
  have hS := I.sh1
  obtain ⟨e57, h2, h3, h4⟩ := I.2.1
  by_cases c : 0 ≤ r ∧ r < 6
  · have h1 := h2 r.toNat
    by_cases c1 : M 2 r.toNat < 0
    · refine st_find I (f := 1) ?_ ?_
      · simp (disch := omega) only [X_X8_lay_0, sp_isNumber_1 hS hr, b2_t c, ob, w1, n10, if_false, sp_lacking_1 hS c hi, if_pos c1, f_c1]
      · have hs : ∀ q, -1 ≤ (cF 1 M) 57 q ∧ (cF 1 M) 57 q ≤ 40 := fun q => by show -1 ≤ M 57 q ∧ M 57 q ≤ 40; rw [e57]; exact h2 q
        rw [X_X9_lay_53, sp_refused hs c hi, if_pos (show (cF 1 M) 57 r.toNat < 0 by show M 57 r.toNat < 0; rw [e57]; exact c1), ob]
        simp only [m3, nm30, if_false]
    · by_cases c2 : 0 ≤ i ∧ i < M 2 r.toNat
      · have e40 := tn40 c.1 c2.1
        have e58 : M 58 (40 * r + i).toNat = M 3 (40 * r + i).toNat := by rw [e40]; exact h4 r.toNat i.toNat (by omega) (by omega)
        refine ⟨1, 1, cT (M 3 (40 * r + i).toNat) (am_up M 3 (40 * r + i).toNat v), mT (M 58 (40 * r + i).toNat) (am_up (cT (M 3 (40 * r + i).toNat) (am_up M 3 (40 * r + i).toNat v)) 58 (40 * r + i).toNat v), ?_, ?_, rfl, ?_⟩
        · simp (disch := omega) only [X_X8_lay_0, sp_isNumber_1 hS hr, b2_t c, ob, w1, n10, if_false, sp_lacking_1 hS c hi, if_neg c1, if_pos c2, wI_0, if_true, sp_get_1 hS c hi, sp_set_1 hS c c2, sp_tell_0]
        · have hs : ∀ q, -1 ≤ (cT (M 3 (40 * r + i).toNat) (am_up M 3 (40 * r + i).toNat v)) 57 q ∧ (cT (M 3 (40 * r + i).toNat) (am_up M 3 (40 * r + i).toNat v)) 57 q ≤ 40 := fun q => by show -1 ≤ M 57 q ∧ M 57 q ≤ 40; rw [e57]; exact h2 q
          have q57 : (cT (M 3 (40 * r + i).toNat) (am_up M 3 (40 * r + i).toNat v)) 57 r.toNat = M 2 r.toNat := by show M 57 r.toNat = _; rw [e57]
          rw [X_X9_lay_53, sp_refused hs c hi, q57, if_neg c1, if_pos c2, ob]
          simp (disch := omega) only [wI_0, if_true, wI_of, if_pos, sp_tell_53, ob]
          rfl
        · rw [e58]
          have J : Inv (am_up (am_up M 3 (40 * r + i).toNat v) 58 (40 * r + i).toNat v) := inv_rows I (fun a q1 q2 q3 q4 => by rw [up_a q4, up_a q2]) (rw_up I.2.1 (40 * r + i).toNat hv)
          obtain ⟨j1, j2, j3, j4, j5, j6, t1, t2, t3, t4, t5⟩ := J
          exact ⟨j1, j2, j3, j4, j5, j6, t1, rfl, t3, t4, t5⟩
      · refine st_find I (f := 2) ?_ ?_
        · simp (disch := omega) only [X_X8_lay_0, sp_isNumber_1 hS hr, b2_t c, ob, w1, n10, if_false, sp_lacking_1 hS c hi, if_neg c1, if_neg c2, wI_2, n20, f_c2]
        · have hs : ∀ q, -1 ≤ (cF 2 M) 57 q ∧ (cF 2 M) 57 q ≤ 40 := fun q => by show -1 ≤ M 57 q ∧ M 57 q ≤ 40; rw [e57]; exact h2 q
          have q57 : (cF 2 M) 57 r.toNat = M 2 r.toNat := by show M 57 r.toNat = _; rw [e57]
          rw [X_X9_lay_53, sp_refused hs c hi, q57, if_neg c1, if_neg c2, ob]
          simp only [m3, nm30, if_false]
  · refine st_same I (v := -1) (w := -1) ?_ ?_ rfl
    · simp only [X_X8_lay_0, sp_isNumber_1 hS hr, b2_f c, ob, wI_0, if_true]
    · simp only [X_X9_lay_53, X_X9_refused_53, sp_isRow _ hr, b2_f c, ob, wI_0, if_true, wm1, nm10, if_false]
end
section
/-! More of rows and texts: made anew, put, the mean, copies. -/
theorem lp_makeRow (k : am_M → am_Rs) : ∀ (d n : Nat) (M : am_M) (r i : Int), 0 ≤ r → r < 6 → 0 ≤ i → i ≤ 40 → (40 - i).toNat = d → d < n → XL_X9_makeRow_53_1 k n r i M = k (am_row M 58 fun j => if 40 * r + i ≤ (j : Int) ∧ (j : Int) < 40 * r + 40 then 0 else M 58 j)
  | 0, n + 1, M, r, i, hr, hr2, hi, hiz, hd, hn => by
    have e : ∀ j : Nat, ¬ (40 * r + i ≤ (j : Int) ∧ (j : Int) < 40 * r + 40) := fun j => by omega
    simp (disch := omega) only [XL_X9_makeRow_53_1, XB_X9_makeRow_53_1, wI_of, if_neg, e, if_false]
    rw [row_self]
  | d + 1, n + 1, M, r, i, hr, hr2, hi, hiz, hd, hn => by
    simp (disch := omega) only [XL_X9_makeRow_53_1, XB_X9_makeRow_53_1, wI_of, if_pos]
    rw [lp_makeRow k d n _ r (i + 1) hr hr2 (by omega) (by omega) (by omega) (by omega), up_row, row_row]
    congr 2
    funext j
    simp only [row_s]
    by_cases hj : j = (40 * r + i).toNat
    · rw [if_pos (show 40 * r + i ≤ (j : Int) ∧ (j : Int) < 40 * r + 40 by omega), if_neg (by omega), if_pos hj]
    · by_cases hj2 : 40 * r + (i + 1) ≤ (j : Int) ∧ (j : Int) < 40 * r + 40
      · rw [if_pos hj2, if_pos (by omega)]
      · rw [if_neg hj2, if_neg hj, if_neg (by omega)]
theorem sp_makeRow {M : am_M} {r n : Int} (hr : 0 ≤ r ∧ r < 6) : X_X9_makeRow_53 r n M = some (0, am_row (am_up M 57 r.toNat n) 58 fun j => if 40 * r ≤ (j : Int) ∧ (j : Int) < 40 * r + 40 then 0 else M 58 j) := by
  simp (disch := omega) only [X_X9_makeRow_53, XB_X9_makeRow_53_e, wI_of (x := r), if_pos]
  rw [lp_makeRow _ 40 1000 _ r 0 hr.1 hr.2 (by omega) (by omega) (by omega) (by omega)]
  simp only [XB_X9_makeRow_53_3, Int.add_zero, up_a (show 58 ≠ 57 by decide)]
/-- a row made anew on both sides -/
noncomputable def cMk (r n : Int) (M : am_M) : am_M := am_row (am_up M 2 r.toNat n) 3 fun j => if 40 * r ≤ (j : Int) ∧ (j : Int) < 40 * r + n then 0 else M 3 j
noncomputable def mMk (r n : Int) (M : am_M) : am_M := am_row (am_up M 57 r.toNat n) 58 fun j => if 40 * r ≤ (j : Int) ∧ (j : Int) < 40 * r + 40 then 0 else M 58 j
theorem inv_make {M : am_M} (I : Inv M) {r n : Int} (hr : 0 ≤ r ∧ r < 6) (hn : 0 ≤ n ∧ n ≤ 40) : Inv (mMk r n (cMk r n M)) := by
  obtain ⟨e57, h2, h3, h4⟩ := I.2.1
  refine inv_rows I (fun a q1 q2 q3 q4 => by unfold mMk cMk; rw [row_a q4, up_a q3, row_a q2, up_a q1]) ?_
  refine ⟨?_, fun j => ?_, fun j => ?_, fun q i hq hi => ?_⟩
  · show (fun j => if j = r.toNat then n else M 57 j) = (fun j => if j = r.toNat then n else M 2 j)
    rw [e57]
  · show -1 ≤ (if j = r.toNat then n else M 2 j) ∧ (if j = r.toNat then n else M 2 j) ≤ 40
    have := h2 j
    split <;> omega
  · show iR (if 40 * r ≤ (j : Int) ∧ (j : Int) < 40 * r + n then 0 else M 3 j)
    split
    · exact i0
    · exact h3 j
  · have hi' : (i : Int) < (if q = r.toNat then n else M 2 q) := hi
    show (if 40 * r ≤ ((40 * q + i : Nat) : Int) ∧ ((40 * q + i : Nat) : Int) < 40 * r + 40 then 0 else M 58 (40 * q + i)) = (if 40 * r ≤ ((40 * q + i : Nat) : Int) ∧ ((40 * q + i : Nat) : Int) < 40 * r + n then 0 else M 3 (40 * q + i))
    by_cases hqr : q = r.toNat
    · rw [if_pos hqr] at hi'
      rw [if_pos (by omega), if_pos (by omega)]
    · rw [if_neg hqr] at hi'
      have := h2 q
      rw [if_neg (by omega), if_neg (by omega), h4 q i hq hi']
theorem eq_row {M : am_M} (I : Inv M) {r n : Int} (hr : iR r) (hn : iR n) : Step (X_X8_row_0 r n) (X_X9_row_53 r n) M := by
  have hS := I.sh1
  by_cases c : 0 ≤ r ∧ r < 6
  · by_cases c1 : 40 < n
    · refine st_same I (v := -1) (w := -1) ?_ ?_ rfl
      · simp (disch := omega) only [X_X8_row_0, sp_isNumber_1 hS hr, b2_t c, ob, w1, n10, if_false, wI_R hn, if_pos]
      · simp (disch := omega) only [X_X9_row_53, sp_isRow _ hr, b2_t c, ob, w1, n10, if_false, wI_R hn, if_pos]
    · by_cases c2 : n < 0
      · refine st_find I (f := 5) ?_ ?_
        · simp (disch := omega) only [X_X8_row_0, sp_isNumber_1 hS hr, b2_t c, ob, w1, n10, if_false, wI_R hn, if_pos, if_neg, f_c5]
        · simp (disch := omega) only [X_X9_row_53, sp_isRow _ hr, b2_t c, ob, w1, n10, if_false, wI_R hn, if_pos, if_neg, f_m5]
      · refine ⟨n, n, cMk r n M, mMk r n (cMk r n M), ?_, ?_, rfl, inv_make I c (by omega)⟩
        · simp (disch := omega) only [X_X8_row_0, sp_isNumber_1 hS hr, b2_t c, ob, w1, n10, if_false, wI_R hn, if_neg, sp_make_1 hS c (show 0 ≤ n ∧ n ≤ 40 by omega)]
          rfl
        · simp (disch := omega) only [X_X9_row_53, sp_isRow _ hr, b2_t c, ob, w1, n10, if_false, wI_R hn, if_neg, sp_makeRow c]
          rfl
  · refine st_same I (v := -1) (w := -1) ?_ ?_ rfl
    · simp only [X_X8_row_0, sp_isNumber_1 hS hr, b2_f c, ob, wI_0, if_true]
    · simp only [X_X9_row_53, sp_isRow _ hr, b2_f c, ob, wI_0, if_true]
theorem inv_texts {M M' : am_M} (I : Inv M) (hc : ∀ a, a ≠ 5 → a ≠ 6 → a ≠ 59 → a ≠ 60 → M' a = M a) (hr : TxI (M' 5) (M' 6) (M' 59) (M' 60)) : Inv M' := by
  unfold Inv
  rw [hc 1 (by decide) (by decide) (by decide) (by decide), hc 4 (by decide) (by decide) (by decide) (by decide), hc 2 (by decide) (by decide) (by decide) (by decide), hc 3 (by decide) (by decide) (by decide) (by decide), hc 57 (by decide) (by decide) (by decide) (by decide), hc 58 (by decide) (by decide) (by decide) (by decide)]
  rw [hc 9 (by decide) (by decide) (by decide) (by decide), hc 10 (by decide) (by decide) (by decide) (by decide), hc 11 (by decide) (by decide) (by decide) (by decide), hc 12 (by decide) (by decide) (by decide) (by decide), hc 13 (by decide) (by decide) (by decide) (by decide), hc 53 (by decide) (by decide) (by decide) (by decide), hc 55 (by decide) (by decide) (by decide) (by decide), hc 56 (by decide) (by decide) (by decide) (by decide)]
  rw [hc 14 (by decide) (by decide) (by decide) (by decide), hc 15 (by decide) (by decide) (by decide) (by decide), hc 16 (by decide) (by decide) (by decide) (by decide), hc 17 (by decide) (by decide) (by decide) (by decide), hc 18 (by decide) (by decide) (by decide) (by decide), hc 54 (by decide) (by decide) (by decide) (by decide), hc 35 (by decide) (by decide) (by decide) (by decide)]
  rw [hc 20 (by decide) (by decide) (by decide) (by decide), hc 21 (by decide) (by decide) (by decide) (by decide), hc 22 (by decide) (by decide) (by decide) (by decide), hc 23 (by decide) (by decide) (by decide) (by decide), hc 24 (by decide) (by decide) (by decide) (by decide), hc 25 (by decide) (by decide) (by decide) (by decide), hc 26 (by decide) (by decide) (by decide) (by decide), hc 27 (by decide) (by decide) (by decide) (by decide), hc 28 (by decide) (by decide) (by decide) (by decide), hc 29 (by decide) (by decide) (by decide) (by decide)]
  rw [hc 30 (by decide) (by decide) (by decide) (by decide), hc 31 (by decide) (by decide) (by decide) (by decide), hc 32 (by decide) (by decide) (by decide) (by decide), hc 33 (by decide) (by decide) (by decide) (by decide), hc 34 (by decide) (by decide) (by decide) (by decide), hc 0 (by decide) (by decide) (by decide) (by decide), hc 52 (by decide) (by decide) (by decide) (by decide), hc 61 (by decide) (by decide) (by decide) (by decide)]
  exact ⟨I.1, I.2.1, hr, I.2.2.2⟩
theorem lp_text (k : Int → am_M → am_Rs) : ∀ (d n : Nat) (M : am_M) (r z i : Int), 0 ≤ r → r < 4 → 0 ≤ i → i ≤ 60 → (60 - i).toNat = d → d < n → XL_X9_text_53_6 k n r z i M = k z (am_row M 60 fun j => if 60 * r + i ≤ (j : Int) ∧ (j : Int) < 60 * r + 60 then 32 else M 60 j)
  | 0, n + 1, M, r, z, i, hr, hr2, hi, hiz, hd, hn => by
    have e : ∀ j : Nat, ¬ (60 * r + i ≤ (j : Int) ∧ (j : Int) < 60 * r + 60) := fun j => by omega
    simp (disch := omega) only [XL_X9_text_53_6, XB_X9_text_53_6, wI_of, if_neg, e, if_false]
    rw [row_self]
  | d + 1, n + 1, M, r, z, i, hr, hr2, hi, hiz, hd, hn => by
    simp (disch := omega) only [XL_X9_text_53_6, XB_X9_text_53_6, wI_of, if_pos]
    rw [lp_text k d n _ r z (i + 1) hr hr2 (by omega) (by omega) (by omega) (by omega), up_row, row_row]
    congr 2
    funext j
    simp only [row_s]
    by_cases hj : j = (60 * r + i).toNat
    · rw [if_pos (show 60 * r + i ≤ (j : Int) ∧ (j : Int) < 60 * r + 60 by omega), if_neg (by omega), if_pos hj]
    · by_cases hj2 : 60 * r + (i + 1) ≤ (j : Int) ∧ (j : Int) < 60 * r + 60
      · rw [if_pos hj2, if_pos (by omega)]
      · rw [if_neg hj2, if_neg hj, if_neg (by omega)]
theorem eq_text {M : am_M} (I : Inv M) {r n : Int} (hr : iR r) (hn : iR n) : Step (X_X8_text_0 r n) (X_X9_text_53 r n) M := by
  have hS := I.sh4
  obtain ⟨e59, h2, h3, h4⟩ := I.2.2.1
  by_cases c : 0 ≤ r ∧ r < 4
  · by_cases c1 : 60 < n
    · refine st_same I (v := -1) (w := -1) ?_ ?_ rfl
      · simp (disch := omega) only [X_X8_text_0, sp_isNumber_4 hS hr, b2_t c, ob, w1, n10, if_false, wI_R hn, if_pos]
      · simp (disch := omega) only [X_X9_text_53, XB_X9_text_53_e, sp_isText _ hr, b2_t c, ob, w1, n10, if_false, wI_R hn, if_pos]
    · by_cases c2 : n < 0
      · refine st_find I (f := 5) ?_ ?_
        · simp (disch := omega) only [X_X8_text_0, sp_isNumber_4 hS hr, b2_t c, ob, w1, n10, if_false, wI_R hn, if_pos, if_neg, f_c5]
        · simp (disch := omega) only [X_X9_text_53, XB_X9_text_53_e, sp_isText _ hr, b2_t c, ob, w1, n10, if_false, wI_R hn, if_pos, if_neg, f_m5]
      · refine ⟨n, n, am_row (am_up M 5 r.toNat n) 6 (fun j => if 60 * r ≤ (j : Int) ∧ (j : Int) < 60 * r + n then 32 else M 6 j), am_row (am_up (am_row (am_up M 5 r.toNat n) 6 (fun j => if 60 * r ≤ (j : Int) ∧ (j : Int) < 60 * r + n then 32 else M 6 j)) 59 r.toNat n) 60 (fun j => if 60 * r ≤ (j : Int) ∧ (j : Int) < 60 * r + 60 then 32 else M 60 j), ?_, ?_, rfl, ?_⟩
        · simp (disch := omega) only [X_X8_text_0, sp_isNumber_4 hS hr, b2_t c, ob, w1, n10, if_false, wI_R hn, if_neg, sp_make_4 hS c (show 0 ≤ n ∧ n ≤ 60 by omega)]
        · simp (disch := omega) only [X_X9_text_53, XB_X9_text_53_e, sp_isText _ hr, b2_t c, ob, w1, n10, if_false, wI_R hn, if_neg, wI_R hr, if_pos]
          rw [lp_text _ 60 1000 _ r n 0 c.1 c.2 (by omega) (by omega) (by omega) (by omega)]
          simp only [XB_X9_text_53_8, Int.add_zero]
          rfl
        · refine inv_texts I (fun a q1 q2 q3 q4 => by rw [row_a q4, up_a q3, row_a q2, up_a q1]) ?_
          refine ⟨?_, fun j => ?_, fun j => ?_, fun q i hq hi => ?_⟩
          · show (fun j => if j = r.toNat then n else M 59 j) = (fun j => if j = r.toNat then n else M 5 j)
            rw [e59]
          · show -1 ≤ (if j = r.toNat then n else M 5 j) ∧ (if j = r.toNat then n else M 5 j) ≤ 60
            have := h2 j
            split <;> omega
          · show -128 ≤ (if 60 * r ≤ (j : Int) ∧ (j : Int) < 60 * r + n then 32 else M 6 j) ∧ (if 60 * r ≤ (j : Int) ∧ (j : Int) < 60 * r + n then 32 else M 6 j) ≤ 127
            have := h3 j
            split <;> omega
          · have hi' : (i : Int) < (if q = r.toNat then n else M 5 q) := hi
            show (if 60 * r ≤ ((60 * q + i : Nat) : Int) ∧ ((60 * q + i : Nat) : Int) < 60 * r + 60 then 32 else M 60 (60 * q + i)) = (if 60 * r ≤ ((60 * q + i : Nat) : Int) ∧ ((60 * q + i : Nat) : Int) < 60 * r + n then 32 else M 6 (60 * q + i))
            by_cases hqr : q = r.toNat
            · rw [if_pos hqr] at hi'
              rw [if_pos (by omega), if_pos (by omega)]
            · rw [if_neg hqr] at hi'
              have := h2 q
              rw [if_neg (by omega), if_neg (by omega), h4 q i hq hi']
  · refine st_same I (v := -1) (w := -1) ?_ ?_ rfl
    · simp only [X_X8_text_0, sp_isNumber_4 hS hr, b2_f c, ob, wI_0, if_true]
    · simp only [X_X9_text_53, XB_X9_text_53_e, sp_isText _ hr, b2_f c, ob, wI_0, if_true]
theorem wB_r (x : Int) : -128 ≤ wB x ∧ wB x ≤ 127 := by unfold wB; omega
theorem eq_put {M : am_M} (I : Inv M) {r i v : Int} (hr : iR r) (hi : iR i) : Step (X_X8_put_0 r i v) (X_X9_put_53 r i v) M := by
  have hS := I.sh4
  obtain ⟨e59, h2, h3, h4⟩ := I.2.2.1
  by_cases c : 0 ≤ r ∧ r < 4
  · have h1 := h2 r.toNat
    by_cases c1 : M 5 r.toNat < 0
    · refine st_find I (f := 1) ?_ ?_
      · simp (disch := omega) only [X_X8_put_0, sp_isNumber_4 hS hr, b2_t c, ob, w1, n10, if_false, sp_lacking_4 hS c hi, if_pos c1, f_c1]
      · have q59 : (cF 1 M) 59 r.toNat = M 5 r.toNat := by show M 59 r.toNat = _; rw [e59]
        simp (disch := omega) only [X_X9_put_53, sp_isText _ hr, b2_t c, ob, w1, n10, if_false, wI_R hr, q59, wI_of (x := M 5 r.toNat), if_pos, f_m1]
    · by_cases c2 : 0 ≤ i ∧ i < M 5 r.toNat
      · have e60 := tn60 c.1 c2.1
        have e6 : M 60 (60 * r + i).toNat = M 6 (60 * r + i).toNat := by rw [e60]; exact h4 r.toNat i.toNat (by omega) (by omega)
        refine ⟨M 6 (60 * r + i).toNat + 1000, M 60 (60 * r + i).toNat + 1000, am_up M 6 (60 * r + i).toNat (wB v), am_up (am_up M 6 (60 * r + i).toNat (wB v)) 60 (60 * r + i).toNat (wB v), ?_, ?_, by rw [e6], ?_⟩
        · simp (disch := omega) only [X_X8_put_0, sp_isNumber_4 hS hr, b2_t c, ob, w1, n10, if_false, sp_lacking_4 hS c hi, if_neg c1, if_pos c2, wI_0, if_true, sp_get_4 hS c hi, sp_set_4 hS c c2]
        · have q59 : (am_up M 6 (60 * r + i).toNat (wB v)) 59 r.toNat = M 5 r.toNat := by show M 59 r.toNat = _; rw [e59]
          simp (disch := omega) only [X_X9_put_53, sp_isText _ hr, b2_t c, ob, w1, n10, if_false, wI_R hr, q59, wI_of (x := M 5 r.toNat), wI_of (x := M 5 r.toNat - 1), wI_R hi, sp_in _ hi i0 (show iR (M 5 r.toNat - 1) by unfold iR; omega), b2_t (show 0 ≤ i ∧ i ≤ M 5 r.toNat - 1 by omega), wI_of (x := 60 * r + i), if_pos, if_neg]
          rfl
        · refine inv_texts I (fun a q1 q2 q3 q4 => by rw [up_a q4, up_a q2]) ⟨e59, h2, fun j => ?_, fun q i2 hq hi2 => ?_⟩
          · show -128 ≤ (if j = (60 * r + i).toNat then wB v else M 6 j) ∧ (if j = (60 * r + i).toNat then wB v else M 6 j) ≤ 127
            split
            · exact wB_r v
            · exact h3 j
          · show (if 60 * q + i2 = (60 * r + i).toNat then wB v else M 60 (60 * q + i2)) = (if 60 * q + i2 = (60 * r + i).toNat then wB v else M 6 (60 * q + i2))
            rw [h4 q i2 hq hi2]
      · refine st_find I (f := 2) ?_ ?_
        · simp (disch := omega) only [X_X8_put_0, sp_isNumber_4 hS hr, b2_t c, ob, w1, n10, if_false, sp_lacking_4 hS c hi, if_neg c1, if_neg c2, wI_2, n20, f_c2]
        · have q59 : (cF 2 M) 59 r.toNat = M 5 r.toNat := by show M 59 r.toNat = _; rw [e59]
          simp (disch := omega) only [X_X9_put_53, sp_isText _ hr, b2_t c, ob, w1, n10, if_false, wI_R hr, q59, wI_of (x := M 5 r.toNat), wI_of (x := M 5 r.toNat - 1), wI_R hi, sp_in _ hi i0 (show iR (M 5 r.toNat - 1) by unfold iR; omega), b2_f (show ¬ (0 ≤ i ∧ i ≤ M 5 r.toNat - 1) by omega), wI_0, if_true, if_pos, if_neg, f_m2]
  · refine st_same I (v := -1) (w := -1) ?_ ?_ rfl
    · simp only [X_X8_put_0, sp_isNumber_4 hS hr, b2_f c, ob, wI_0, if_true]
    · simp only [X_X9_put_53, sp_isText _ hr, b2_f c, ob, wI_0, if_true]
end
section
/-! The mean, copies. -/
noncomputable def sf (a : Nat → Int) : Nat → Nat → Int
  | _, 0 => 0
  | i, d + 1 => a i + sf a (i + 1) d
theorem sf_c {a b : Nat → Int} : ∀ (d i : Nat), (∀ j, i ≤ j → j < i + d → a j = b j) → sf a i d = sf b i d
  | 0, i, h => rfl
  | d + 1, i, h => by
    simp only [sf]
    rw [h i (by omega) (by omega), sf_c d (i + 1) (fun j h1 h2 => h j (by omega) (by omega))]
theorem lp_sum (k : Int → am_M → am_Rs) : ∀ (d n : Nat) (M : am_M) (r acc : Int) (i : Nat), Sh1 M → (∀ j, iR (M 3 j)) → 0 ≤ r → r < 6 → (i : Int) + d = M 2 r.toNat → d < n → XL_X6_sum_1_1 k n r acc i M = k (acc + sf (fun j => M 3 (40 * r.toNat + j)) i d) M
  | 0, n + 1, M, r, acc, i, hS, h3, hr, hr2, hi, hn => by
    have h1 := hS.2.2.2 r.toNat
    simp (disch := omega) only [XL_X6_sum_1_1, XB_X6_sum_1_1, sp_sizeOf_1 hS (show iR r by unfold iR; omega), ob, if_pos (show 0 ≤ r ∧ r < 6 by omega), wI_of (x := M 2 r.toNat), wI_of (x := (i : Int)), if_neg, sf, Int.add_zero]
  | d + 1, n + 1, M, r, acc, i, hS, h3, hr, hr2, hi, hn => by
    have h1 := hS.2.2.2 r.toNat
    have e : (40 * r + (i : Int)).toNat = 40 * r.toNat + i := by omega
    simp (disch := omega) only [XL_X6_sum_1_1, XB_X6_sum_1_1, sp_sizeOf_1 hS (show iR r by unfold iR; omega), ob, if_pos (show 0 ≤ r ∧ r < 6 by omega), wI_of (x := M 2 r.toNat), wI_of (x := (i : Int)), if_pos, sp_get_1 hS (show 0 ≤ r ∧ r < 6 by omega) (show iR (i : Int) by unfold iR; omega), e, wI_R (h3 _)]
    have := lp_sum k d n M r (acc + M 3 (40 * r.toNat + i)) (i + 1) hS h3 hr hr2 (by push_cast; omega) (by omega)
    rw [show ((i + 1 : Nat) : Int) = (i : Int) + 1 from rfl] at this
    rw [this]
    simp only [sf, Int.add_assoc]
theorem lp_mean (k : Int → Int → am_M → am_Rs) : ∀ (d n : Nat) (M : am_M) (r acc : Int) (i : Nat), (∀ j : Nat, j < 40 → (j : Int) < M 57 r.toNat → iR (M 58 (40 * r.toNat + j))) → M 57 r.toNat ≤ 40 → 0 ≤ r → r < 6 → (i : Int) + d = M 57 r.toNat → d < n → XL_X9_mean_53_7 k n r acc i M = k r (acc + sf (fun j => M 58 (40 * r.toNat + j)) i d) M
  | 0, n + 1, M, r, acc, i, h3, h4, hr, hr2, hi, hn => by
    simp (disch := omega) only [XL_X9_mean_53_7, XB_X9_mean_53_7, wI_of (x := r), if_pos (show 0 ≤ r ∧ r < 6 by omega), wI_of (x := M 57 r.toNat), wI_of (x := (i : Int)), if_neg, sf, Int.add_zero]
  | d + 1, n + 1, M, r, acc, i, h3, h4, hr, hr2, hi, hn => by
    have e : (40 * r + (i : Int)).toNat = 40 * r.toNat + i := by omega
    simp (disch := omega) only [XL_X9_mean_53_7, XB_X9_mean_53_7, wI_of (x := r), if_pos (show 0 ≤ r ∧ r < 6 by omega), wI_of (x := M 57 r.toNat), wI_of (x := (i : Int)), wI_of (x := 40 * r + (i : Int)), if_pos, e, wI_R (h3 i (by omega) (by omega))]
    have := lp_mean k d n M r (acc + M 58 (40 * r.toNat + i)) (i + 1) h3 h4 hr hr2 (by push_cast; omega) (by omega)
    rw [show ((i + 1 : Nat) : Int) = (i : Int) + 1 from rfl] at this
    rw [this]
    simp only [sf, Int.add_assoc]
theorem eq_mean {M : am_M} (I : Inv M) {r : Int} (hr : iR r) : Step (X_X8_mean_0 r) (X_X9_mean_53 r) M := by
  have hS := I.sh1
  obtain ⟨e57, h2, h3, h4⟩ := I.2.1
  by_cases c : 0 ≤ r ∧ r < 6
  · have h1 := h2 r.toNat
    by_cases c1 : 0 ≤ M 2 r.toNat
    · by_cases c2 : M 2 r.toNat < 1
      · refine st_find I (f := 4) ?_ ?_
        · simp (disch := omega) only [X_X8_mean_0, sp_isNumber_1 hS hr, b2_t c, ob, w1, n10, if_false, sp_isThere_1 hS c, b2_t c1, sp_sizeOf_1 hS hr, if_pos c, wI_of (x := M 2 r.toNat), if_pos c2, f_c4]
        · have q57 : (cF 4 M) 57 r.toNat = M 2 r.toNat := by show M 57 r.toNat = _; rw [e57]
          simp (disch := omega) only [X_X9_mean_53, XB_X9_mean_53_e, sp_isRow _ hr, b2_t c, ob, w1, n10, if_false, wI_R hr, q57, wI_of (x := M 2 r.toNat), if_neg, if_pos, f_m4]
      · have hsum : sf (fun j => M 58 (40 * r.toNat + j)) 0 (M 2 r.toNat).toNat = sf (fun j => M 3 (40 * r.toNat + j)) 0 (M 2 r.toNat).toNat := sf_c _ 0 (fun j _ hj => h4 r.toNat j (by omega) (by omega))
        obtain ⟨V, hV⟩ : ∃ V, V = (wL (0 + sf (fun j => M 3 (40 * r.toNat + j)) 0 (M 2 r.toNat).toNat)).tdiv (M 2 r.toNat) := ⟨_, rfl⟩
        have hw : wL (M 2 r.toNat) = M 2 r.toNat := wL_of (by omega) (by omega)
        refine st_tell I (v := V) (w := V) rfl ?_ ?_
        · have hL := lp_sum XB_X6_sum_1_3 (M 2 r.toNat).toNat 1000 M r 0 0 hS h3 c.1 c.2 (by omega) (by omega)
          rw [show ((0 : Nat) : Int) = 0 from rfl] at hL
          simp (disch := omega) only [X_X8_mean_0, sp_isNumber_1 hS hr, b2_t c, ob, w1, n10, if_false, sp_isThere_1 hS c, b2_t c1, sp_sizeOf_1 hS hr, if_pos c, wI_of (x := M 2 r.toNat), if_neg c2, X_X6_sum_1, XB_X6_sum_1_e, hL, XB_X6_sum_1_3, hw, if_pos, sp_tell_0, ← hV]
        · have q57 : (cT V M) 57 r.toNat = M 2 r.toNat := by show M 57 r.toNat = _; rw [e57]
          have hL := lp_mean XB_X9_mean_53_9 (M 2 r.toNat).toNat 1000 (cT V M) r 0 0 (fun j _ hj => by
            rw [q57] at hj
            show iR (M 58 (40 * r.toNat + j))
            rw [h4 r.toNat j (by omega) hj]; exact h3 _) (by rw [q57]; omega) c.1 c.2 (by rw [q57]; omega) (by omega)
          rw [show ((0 : Nat) : Int) = 0 from rfl] at hL
          have hV2 : (wL (0 + sf (fun j => (cT V M) 58 (40 * r.toNat + j)) 0 (M 2 r.toNat).toNat)).tdiv (M 2 r.toNat) = V := by rw [hV, ← hsum]; rfl
          simp (disch := omega) only [X_X9_mean_53, XB_X9_mean_53_e, sp_isRow _ hr, b2_t c, ob, w1, n10, if_false, wI_R hr, q57, wI_of (x := M 2 r.toNat), if_neg, if_pos, hL, XB_X9_mean_53_9, hw, hV2, sp_tell_53]
    · refine st_find I (f := 1) ?_ ?_
      · simp (disch := omega) only [X_X8_mean_0, sp_isNumber_1 hS hr, b2_t c, ob, w1, n10, if_false, sp_isThere_1 hS c, b2_f c1, wI_0, if_true, f_c1]
      · have q57 : (cF 1 M) 57 r.toNat = M 2 r.toNat := by show M 57 r.toNat = _; rw [e57]
        simp (disch := omega) only [X_X9_mean_53, XB_X9_mean_53_e, sp_isRow _ hr, b2_t c, ob, w1, n10, if_false, wI_R hr, q57, wI_of (x := M 2 r.toNat), if_pos, f_m1]
  · refine st_same I (v := -1) (w := -1) ?_ ?_ rfl
    · simp only [X_X8_mean_0, sp_isNumber_1 hS hr, b2_f c, ob, wI_0, if_true]
    · simp only [X_X9_mean_53, XB_X9_mean_53_e, sp_isRow _ hr, b2_f c, ob, wI_0, if_true]
theorem sp_holds {M : am_M} (h : Sh1 M) {r i n : Int} (hr : 0 ≤ r ∧ r < 6) (hi : iR i) (hn : iR n) : X_X6_holds_1 r i n M = some (b2 (0 ≤ i ∧ 0 ≤ n ∧ i + n ≤ M 2 r.toNat), M) := by
  have h1 := h.2.2.2 r.toNat
  obtain ⟨i1, i2⟩ := hi
  obtain ⟨n1, n2⟩ := hn
  have h2 : X_X6_sizeOf_1 r M = some (M 2 r.toNat, M) := by rw [sp_sizeOf_1 h (by unfold iR; omega), if_pos hr]
  by_cases c1 : i < 0
  · rw [b2_f (by omega)]
    simp (disch := omega) only [X_X6_holds_1, wI_of, if_pos]
  · by_cases c2 : n < 0
    · rw [b2_f (by omega)]
      simp (disch := omega) only [X_X6_holds_1, wI_of, if_pos, if_neg]
    · by_cases c3 : i + n ≤ M 2 r.toNat
      · rw [b2_t (by omega)]
        simp (disch := omega) only [X_X6_holds_1, wI_of, h2, ob, if_neg]
      · rw [b2_f (by omega)]
        simp (disch := omega) only [X_X6_holds_1, wI_of, h2, ob, if_pos, if_neg]
theorem sp_bring {M : am_M} (hS : Sh1 M) {r i t j n : Int} (c : 0 ≤ r ∧ r < 6) (c' : 0 ≤ t ∧ t < 6) (hi : iR i) (hj : iR j) (hn : iR n) (d1 : 0 ≤ i ∧ 0 ≤ n ∧ i + n ≤ M 2 r.toNat) (d2 : 0 ≤ j ∧ 0 ≤ n ∧ j + n ≤ M 2 t.toNat) : X_X6_bring_1 r i t j n M = some (0, am_cpy M 3 3 (40 * r + i).toNat (40 * t + j).toNat n.toNat) := by
  have h1 := hS.2.2.2 r.toNat
  have h1' := hS.2.2.2 t.toNat
  have e1 : wI (r * 40 + i) = 40 * r + i := by rw [wI_of (by omega) (by omega)]; omega
  have e2 : wI (t * 40 + j) = 40 * t + j := by rw [wI_of (by omega) (by omega)]; omega
  have e3 : wI n = n := wI_of (by omega) (by omega)
  simp only [X_X6_bring_1, sp_holds hS c hi hn, sp_holds hS c' hj hn, b2_t d1, b2_t d2, ob, w1, n10, if_false, hS.2.1, e1, e2, e3]
  rw [if_pos (by omega)]
theorem sp_isSpan {M : am_M} (hs : ∀ r, -1 ≤ M 57 r ∧ M 57 r ≤ 40) {r i n : Int} (hr : 0 ≤ r ∧ r < 6) (hi : iR i) (hn : iR n) : X_X9_isSpan_53 r i n M = some (b2 (0 ≤ i ∧ i + n ≤ M 57 r.toNat), M) := by
  have h1 := hs r.toNat
  obtain ⟨i1, i2⟩ := hi
  obtain ⟨n1, n2⟩ := hn
  by_cases c1 : i < 0
  · rw [b2_f (by omega)]
    simp (disch := omega) only [X_X9_isSpan_53, wI_of, if_pos]
  · by_cases c3 : i + n ≤ M 57 r.toNat
    · rw [b2_t (by omega)]
      simp (disch := omega) only [X_X9_isSpan_53, lc_gt, wI_of, wL_of, if_pos, if_neg]
    · rw [b2_f (by omega)]
      simp (disch := omega) only [X_X9_isSpan_53, lc_gt, wI_of, wL_of, if_pos, if_neg]
theorem lp_copyF (k : am_M → am_Rs) : ∀ (d f : Nat) (M : am_M) (r i t j n q : Int), 0 ≤ r → r < 6 → 0 ≤ t → t < 6 → 0 ≤ i → 0 ≤ j → i + n ≤ 40 → j + n ≤ 40 → 0 ≤ q → q ≤ n → (40 * t + j ≤ 40 * r + i ∨ 40 * r + i + n ≤ 40 * t + j) → (n - q).toNat = d → d < f →
    XL_X9_copy_53_15 k f r i t j n 0 q M = k (am_row M 58 fun x => if 40 * t + j + q ≤ (x : Int) ∧ (x : Int) < 40 * t + j + n then M 58 (40 * r + i + ((x : Int) - (40 * t + j))).toNat else M 58 x)
  | 0, f + 1, M, r, i, t, j, n, q, hr, hr2, ht, ht2, hi, hj, h1, h2, hq, hqn, ho, hd, hf => by
    have e : ∀ x : Nat, ¬ (40 * t + j + q ≤ (x : Int) ∧ (x : Int) < 40 * t + j + n) := fun x => by omega
    simp (disch := omega) only [XL_X9_copy_53_15, XB_X9_copy_53_15, wI_of, if_neg, e, if_false]
    rw [row_self]
  | d + 1, f + 1, M, r, i, t, j, n, q, hr, hr2, ht, ht2, hi, hj, h1, h2, hq, hqn, ho, hd, hf => by
    simp (disch := omega) only [XL_X9_copy_53_15, XB_X9_copy_53_15, wI_0, if_true, wI_of, if_pos]
    rw [lp_copyF k d f _ r i t j n (q + 1) hr hr2 ht ht2 hi hj h1 h2 (by omega) (by omega) ho (by omega) (by omega), up_row, row_row]
    congr 2
    funext x
    simp only [row_s]
    by_cases hx : x = (40 * t + j + q).toNat
    · rw [if_neg (by omega), if_pos hx, if_pos (by omega)]
      congr 1
      omega
    · by_cases hx2 : 40 * t + j + (q + 1) ≤ (x : Int) ∧ (x : Int) < 40 * t + j + n
      · rw [if_pos hx2, if_neg (by omega), if_pos (by omega)]
      · rw [if_neg hx2, if_neg hx, if_neg (by omega)]
theorem lp_copyB (k : am_M → am_Rs) : ∀ (d f : Nat) (M : am_M) (r i t j n q : Int), 0 ≤ r → r < 6 → 0 ≤ t → t < 6 → 0 ≤ i → 0 ≤ j → i + n ≤ 40 → j + n ≤ 40 → 0 ≤ q → q ≤ n → (40 * r + i ≤ 40 * t + j ∨ 40 * t + j + n ≤ 40 * r + i) → (n - q).toNat = d → d < f →
    XL_X9_copy_53_15 k f r i t j n 1 q M = k (am_row M 58 fun x => if 40 * t + j ≤ (x : Int) ∧ (x : Int) < 40 * t + j + (n - q) then M 58 (40 * r + i + ((x : Int) - (40 * t + j))).toNat else M 58 x)
  | 0, f + 1, M, r, i, t, j, n, q, hr, hr2, ht, ht2, hi, hj, h1, h2, hq, hqn, ho, hd, hf => by
    have e : ∀ x : Nat, ¬ (40 * t + j ≤ (x : Int) ∧ (x : Int) < 40 * t + j + (n - q)) := fun x => by omega
    simp (disch := omega) only [XL_X9_copy_53_15, XB_X9_copy_53_15, wI_of, if_neg, e, if_false]
    rw [row_self]
  | d + 1, f + 1, M, r, i, t, j, n, q, hr, hr2, ht, ht2, hi, hj, h1, h2, hq, hqn, ho, hd, hf => by
    simp (disch := omega) only [XL_X9_copy_53_15, XB_X9_copy_53_15, w1, n10, if_false, wI_of, if_pos]
    rw [lp_copyB k d f _ r i t j n (q + 1) hr hr2 ht ht2 hi hj h1 h2 (by omega) (by omega) ho (by omega) (by omega), up_row, row_row]
    congr 2
    funext x
    simp only [row_s]
    by_cases hx : x = (40 * t + j + (n - 1 - q)).toNat
    · rw [if_neg (by omega), if_pos hx, if_pos (by omega)]
      congr 1
      omega
    · by_cases hx2 : 40 * t + j ≤ (x : Int) ∧ (x : Int) < 40 * t + j + (n - (q + 1))
      · rw [if_pos hx2, if_neg (by omega), if_pos (by omega)]
      · rw [if_neg hx2, if_neg hx, if_neg (by omega)]
theorem eq_copy {M : am_M} (I : Inv M) {r i t j n : Int} (hr : iR r) (hi : iR i) (ht : iR t) (hj : iR j) (hn : iR n) : Step (X_X8_copy_0 r i t j n) (X_X9_copy_53 r i t j n) M := by
  have hS := I.sh1
  obtain ⟨e57, h2, h3, h4⟩ := I.2.1
  by_cases c : 0 ≤ r ∧ r < 6
  · by_cases c' : 0 ≤ t ∧ t < 6
    · have h1 := h2 r.toNat
      have h1' := h2 t.toNat
      by_cases c0 : n < 0
      · refine st_find I (f := 5) ?_ ?_
        · simp (disch := omega) only [X_X8_copy_0, sp_isNumber_1 hS hr, b2_t c, ob, w1, n10, if_false, sp_isNumber_1 hS ht, b2_t c', wI_R hn, if_pos c0, f_c5]
        · simp (disch := omega) only [X_X9_copy_53, XB_X9_copy_53_e, sp_isRow _ hr, b2_t c, ob, w1, n10, if_false, sp_isRow _ ht, b2_t c', wI_R hn, if_pos c0, f_m5]
      · by_cases c1 : 0 ≤ M 2 r.toNat
        · by_cases c1' : 0 ≤ M 2 t.toNat
          · by_cases d1 : 0 ≤ i ∧ i + n ≤ M 2 r.toNat
            · by_cases d2 : 0 ≤ j ∧ j + n ≤ M 2 t.toNat
              · have hcl : X_X8_copy_0 r i t j n M = some (1, am_cpy M 3 3 (40 * r + i).toNat (40 * t + j).toNat n.toNat) := by
                  rw [X_X8_copy_0, sp_isNumber_1 hS hr, b2_t c, ob]
                  simp only [w1, n10, if_false, sp_isNumber_1 hS ht, b2_t c', ob, wI_R hn, if_neg c0, sp_isThere_1 hS c, b2_t c1, sp_isThere_1 hS c', b2_t c1', sp_holds hS c hi hn, sp_holds hS c' hj hn, b2_t (show 0 ≤ i ∧ 0 ≤ n ∧ i + n ≤ M 2 r.toNat by omega), b2_t (show 0 ≤ j ∧ 0 ≤ n ∧ j + n ≤ M 2 t.toNat by omega), sp_bring hS c c' hi hj hn (show 0 ≤ i ∧ 0 ≤ n ∧ i + n ≤ M 2 r.toNat by omega) (show 0 ≤ j ∧ 0 ≤ n ∧ j + n ≤ M 2 t.toNat by omega)]
                have hs : ∀ q, -1 ≤ (am_cpy M 3 3 (40 * r + i).toNat (40 * t + j).toNat n.toNat) 57 q ∧ (am_cpy M 3 3 (40 * r + i).toNat (40 * t + j).toNat n.toNat) 57 q ≤ 40 := fun q => by show -1 ≤ M 57 q ∧ M 57 q ≤ 40; rw [e57]; exact h2 q
                have q57 : ∀ q, (am_cpy M 3 3 (40 * r + i).toNat (40 * t + j).toNat n.toNat) 57 q = M 2 q := fun q => by show M 57 q = _; rw [e57]
                have hgo : ∀ g : Nat → Int, (∀ x : Nat, g x = if 40 * t + j ≤ (x : Int) ∧ (x : Int) < 40 * t + j + n then M 58 (40 * r + i + ((x : Int) - (40 * t + j))).toNat else M 58 x) → Inv (am_row (am_cpy M 3 3 (40 * r + i).toNat (40 * t + j).toNat n.toNat) 58 g) := by
                  intro g hg
                  refine inv_rows I (fun a q1 q2 q3 q4 => by rw [row_a q4, cpy_a q2]) ⟨e57, h2, fun x => ?_, fun q y hq hy => ?_⟩
                  · show iR (va_cpy (M 3) (M 3) (40 * r + i).toNat (40 * t + j).toNat n.toNat x)
                    unfold va_cpy
                    split <;> exact h3 _
                  · have hy' : (y : Int) < M 2 q := hy
                    have hq2 := h2 q
                    show g (40 * q + y) = va_cpy (M 3) (M 3) (40 * r + i).toNat (40 * t + j).toNat n.toNat (40 * q + y)
                    rw [hg]
                    unfold va_cpy
                    by_cases hx : 40 * t + j ≤ ((40 * q + y : Nat) : Int) ∧ ((40 * q + y : Nat) : Int) < 40 * t + j + n
                    · rw [if_pos hx, if_pos (by omega)]
                      have := h4 r.toNat (40 * q + y + i.toNat - (40 * t + j).toNat) (by omega) (by omega)
                      rw [show (40 * r + i + (((40 * q + y : Nat) : Int) - (40 * t + j))).toNat = 40 * r.toNat + (40 * q + y + i.toNat - (40 * t + j).toNat) by omega, this]
                      congr 1
                      omega
                    · rw [if_neg hx, if_neg (by omega), h4 q y hq hy']
                by_cases cd : i < j
                · refine ⟨1, 1, _, am_row (am_cpy M 3 3 (40 * r + i).toNat (40 * t + j).toNat n.toNat) 58 (fun x => if 40 * t + j ≤ (x : Int) ∧ (x : Int) < 40 * t + j + (n - 0) then M 58 (40 * r + i + ((x : Int) - (40 * t + j))).toNat else M 58 x), hcl, ?_, rfl, hgo _ (fun x => by rw [Int.sub_zero])⟩
                  simp (disch := omega) only [X_X9_copy_53, XB_X9_copy_53_e, sp_isRow _ hr, b2_t c, ob, w1, n10, if_false, sp_isRow _ ht, b2_t c', wI_R hn, if_neg c0, wI_R hr, wI_R ht, q57, wI_of (x := M 2 r.toNat), wI_of (x := M 2 t.toNat), sp_isSpan hs c hi hn, sp_isSpan hs c' hj hn, b2_t d1, b2_t d2, wI_R hi, wI_R hj, if_pos cd, if_pos c, if_pos c', if_neg (show ¬ M 2 r.toNat < 0 by omega), if_neg (show ¬ M 2 t.toNat < 0 by omega)]
                  rw [lp_copyB _ n.toNat 1000 _ r i t j n 0 c.1 c.2 c'.1 c'.2 d1.1 d2.1 (by omega) (by omega) (by omega) (by omega) (by omega) (by omega) (by omega)]
                  rfl
                · refine ⟨1, 1, _, am_row (am_cpy M 3 3 (40 * r + i).toNat (40 * t + j).toNat n.toNat) 58 (fun x => if 40 * t + j + 0 ≤ (x : Int) ∧ (x : Int) < 40 * t + j + n then M 58 (40 * r + i + ((x : Int) - (40 * t + j))).toNat else M 58 x), hcl, ?_, rfl, hgo _ (fun x => by rw [Int.add_zero])⟩
                  simp (disch := omega) only [X_X9_copy_53, XB_X9_copy_53_e, sp_isRow _ hr, b2_t c, ob, w1, n10, if_false, sp_isRow _ ht, b2_t c', wI_R hn, if_neg c0, wI_R hr, wI_R ht, q57, wI_of (x := M 2 r.toNat), wI_of (x := M 2 t.toNat), sp_isSpan hs c hi hn, sp_isSpan hs c' hj hn, b2_t d1, b2_t d2, wI_R hi, wI_R hj, if_neg cd, if_pos c, if_pos c', if_neg (show ¬ M 2 r.toNat < 0 by omega), if_neg (show ¬ M 2 t.toNat < 0 by omega)]
                  rw [lp_copyF _ n.toNat 1000 _ r i t j n 0 c.1 c.2 c'.1 c'.2 d1.1 d2.1 (by omega) (by omega) (by omega) (by omega) (by omega) (by omega) (by omega)]
                  rfl
              · have hs : ∀ q, -1 ≤ (cF 2 M) 57 q ∧ (cF 2 M) 57 q ≤ 40 := fun q => by show -1 ≤ M 57 q ∧ M 57 q ≤ 40; rw [e57]; exact h2 q
                have q57 : ∀ q, (cF 2 M) 57 q = M 2 q := fun q => by show M 57 q = _; rw [e57]
                refine st_find I (f := 2) ?_ ?_
                · simp (disch := omega) only [X_X8_copy_0, sp_isNumber_1 hS hr, b2_t c, ob, w1, n10, if_false, sp_isNumber_1 hS ht, b2_t c', wI_R hn, if_neg c0, sp_isThere_1 hS c, b2_t c1, sp_isThere_1 hS c', b2_t c1', sp_holds hS c hi hn, sp_holds hS c' hj hn, b2_t (show 0 ≤ i ∧ 0 ≤ n ∧ i + n ≤ M 2 r.toNat by omega), b2_f (show ¬ (0 ≤ j ∧ 0 ≤ n ∧ j + n ≤ M 2 t.toNat) by omega), wI_0, if_true, f_c2]
                · simp (disch := omega) only [X_X9_copy_53, XB_X9_copy_53_e, sp_isRow _ hr, b2_t c, ob, w1, n10, if_false, sp_isRow _ ht, b2_t c', wI_R hn, if_neg c0, wI_R hr, wI_R ht, q57, wI_of (x := M 2 r.toNat), wI_of (x := M 2 t.toNat), sp_isSpan hs c hi hn, sp_isSpan hs c' hj hn, b2_t d1, b2_f d2, wI_0, if_true, f_m2, if_pos c, if_pos c', if_neg (show ¬ M 2 r.toNat < 0 by omega), if_neg (show ¬ M 2 t.toNat < 0 by omega)]
            · have hs : ∀ q, -1 ≤ (cF 2 M) 57 q ∧ (cF 2 M) 57 q ≤ 40 := fun q => by show -1 ≤ M 57 q ∧ M 57 q ≤ 40; rw [e57]; exact h2 q
              have q57 : ∀ q, (cF 2 M) 57 q = M 2 q := fun q => by show M 57 q = _; rw [e57]
              refine st_find I (f := 2) ?_ ?_
              · simp (disch := omega) only [X_X8_copy_0, sp_isNumber_1 hS hr, b2_t c, ob, w1, n10, if_false, sp_isNumber_1 hS ht, b2_t c', wI_R hn, if_neg c0, sp_isThere_1 hS c, b2_t c1, sp_isThere_1 hS c', b2_t c1', sp_holds hS c hi hn, b2_f (show ¬ (0 ≤ i ∧ 0 ≤ n ∧ i + n ≤ M 2 r.toNat) by omega), wI_0, if_true, f_c2]
              · simp (disch := omega) only [X_X9_copy_53, XB_X9_copy_53_e, sp_isRow _ hr, b2_t c, ob, w1, n10, if_false, sp_isRow _ ht, b2_t c', wI_R hn, if_neg c0, wI_R hr, wI_R ht, q57, wI_of (x := M 2 r.toNat), wI_of (x := M 2 t.toNat), sp_isSpan hs c hi hn, b2_f d1, wI_0, if_true, f_m2, if_pos c, if_pos c', if_neg (show ¬ M 2 r.toNat < 0 by omega), if_neg (show ¬ M 2 t.toNat < 0 by omega)]
          · have q57 : ∀ q, (cF 1 M) 57 q = M 2 q := fun q => by show M 57 q = _; rw [e57]
            refine st_find I (f := 1) ?_ ?_
            · simp (disch := omega) only [X_X8_copy_0, sp_isNumber_1 hS hr, b2_t c, ob, w1, n10, if_false, sp_isNumber_1 hS ht, b2_t c', wI_R hn, if_neg c0, sp_isThere_1 hS c, b2_t c1, sp_isThere_1 hS c', b2_f c1', wI_0, if_true, f_c1]
            · simp (disch := omega) only [X_X9_copy_53, XB_X9_copy_53_e, sp_isRow _ hr, b2_t c, ob, w1, n10, if_false, sp_isRow _ ht, b2_t c', wI_R hn, if_neg c0, wI_R hr, wI_R ht, q57, wI_of (x := M 2 r.toNat), wI_of (x := M 2 t.toNat), if_pos c, if_pos c', if_neg (show ¬ M 2 r.toNat < 0 by omega), if_pos (show M 2 t.toNat < 0 by omega), f_m1]
        · have q57 : ∀ q, (cF 1 M) 57 q = M 2 q := fun q => by show M 57 q = _; rw [e57]
          refine st_find I (f := 1) ?_ ?_
          · simp (disch := omega) only [X_X8_copy_0, sp_isNumber_1 hS hr, b2_t c, ob, w1, n10, if_false, sp_isNumber_1 hS ht, b2_t c', wI_R hn, if_neg c0, sp_isThere_1 hS c, b2_f c1, wI_0, if_true, f_c1]
          · simp (disch := omega) only [X_X9_copy_53, XB_X9_copy_53_e, sp_isRow _ hr, b2_t c, ob, w1, n10, if_false, sp_isRow _ ht, b2_t c', wI_R hn, if_neg c0, wI_R hr, wI_R ht, q57, wI_of (x := M 2 r.toNat), if_pos c, if_pos (show M 2 r.toNat < 0 by omega), f_m1]
    · refine st_same I (v := -1) (w := -1) ?_ ?_ rfl
      · simp only [X_X8_copy_0, sp_isNumber_1 hS hr, b2_t c, ob, w1, n10, if_false, sp_isNumber_1 hS ht, b2_f c', wI_0, if_true]
      · simp only [X_X9_copy_53, XB_X9_copy_53_e, sp_isRow _ hr, b2_t c, ob, w1, n10, if_false, sp_isRow _ ht, b2_f c', wI_0, if_true]
  · refine st_same I (v := -1) (w := -1) ?_ ?_ rfl
    · simp only [X_X8_copy_0, sp_isNumber_1 hS hr, b2_f c, ob, wI_0, if_true]
    · simp only [X_X9_copy_53, XB_X9_copy_53_e, sp_isRow _ hr, b2_f c, ob, wI_0, if_true]
end
section
/-! Days: what stays alike while days pass. -/
theorem tot_c {kd du h h' R R' : Nat → Int} {c : Int} {i : Nat} : ∀ (n : Nat), (∀ j, j ≤ 10 * n → h' j = h j) → (∀ j, j < 10 * n → R' j = R j) → tot kd du h' R' c i n = tot kd du h R c i n
  | 0, _, _ => rfl
  | n + 1, hh, hR => by
    simp only [tot]
    rw [tot_c n (fun j hj => hh j (by omega)) (fun j hj => hR j (by omega)), hh (10 * n + 10) (by omega), hR (10 * n + 9) (by omega)]
theorem chg_c {h h' : Nat → Int} {i : Int} : ∀ (n : Nat), (∀ j, j ≤ n → h' j = h j) → chg h' i n = chg h i n
  | 0, _ => rfl
  | n + 1, hh => by
    simp only [chg]
    rw [chg_c n (fun j hj => hh j (by omega)), hh n (by omega), hh (n + 1) (by omega)]
theorem DI_L {s : Int} {kd du o a b h p L L' : Nat → Int} {z : Nat} (hs : s ≤ 12) (D : DI s kd du o a b h p L z) (hL : ∀ j, z ≤ j → j < z + 121 → L' j = L j) : DI s kd du o a b h p L' z := by
  obtain ⟨⟨o1, o2, o3, o4, o5, o6, o7, o8, o9⟩, ⟨s1, s2⟩, hH, ⟨p1, p2⟩, hT⟩ := D
  refine ⟨⟨?_, o2, ?_, o4, ?_, ?_, o7, o8, o9⟩, ⟨s1, fun j hj => ?_⟩, ?_, ⟨p1, fun t i ht hi => ?_⟩, fun i hi => ?_⟩
  · rw [hL z (by omega) (by omega)]; exact o1
  · rw [hL (z + 1) (by omega) (by omega)]; exact o3
  · rw [hL (z + 2) (by omega) (by omega)]; exact o5
  · rw [hL (z + 3) (by omega) (by omega)]; exact o6
  · rw [hL (z + 40 + j) (by omega) (by omega), hL (z + 80 + j) (by omega) (by omega)]; exact s2 j hj
  · rw [hL (z + 120) (by omega) (by omega)]; exact hH
  · have := p2 t i ht hi
    dsimp only at this ⊢
    rw [hL (z + 80 + (10 * t + 9)) (by omega) (by omega)]; exact this
  · have := hT i hi
    have e : ∀ c : Int, tot kd du h (fun j => L' (z + 80 + j)) c i (o 0 / 10).toNat = tot kd du h (fun j => L (z + 80 + j)) c i (o 0 / 10).toNat := fun c => tot_c _ (fun _ _ => rfl) (fun j hj => hL (z + 80 + j) (by omega) (by omega))
    rw [hL (z + 4 + 3 * i) (by omega) (by omega), hL (z + 4 + 3 * i + 1) (by omega) (by omega), hL (z + 4 + 3 * i + 2) (by omega) (by omega), e, e]
    exact this
theorem KpI_L {s : Int} {kd du k o a b h p L L' : Nat → Int} {j z : Nat} (hs : s ≤ 12) (D : KpI s kd du k o a b h p L j z) (hL : ∀ j, z ≤ j → j < z + 121 → L' j = L j) : KpI s kd du k o a b h p L' j z :=
  ⟨by rw [hL z (by omega) (by omega)]; exact D.1, D.2.1, D.2.2.1, fun q => ⟨(D.2.2.2.1 q).1, DI_L hs (D.2.2.2.1 q).2 hL⟩, D.2.2.2.2⟩
theorem inv_days {M M' : am_M} (I : Inv M) (hc : ∀ a, a ≠ 14 → a ≠ 15 → a ≠ 16 → a ≠ 17 → a ≠ 18 → a ≠ 54 → M' a = M a) (hL : ∀ j, 121 ≤ j → j < 484 → M' 54 j = M 54 j) (hD : DI (M 11 0) (M 12) (M 13) (M' 14) (M' 15) (M' 16) (M' 17) (M' 18) (M' 54) 0) : Inv M' := by
  have hs := I.2.2.2.1.2.2.1
  have k1 := KpI_L (L' := M' 54) hs I.2.2.2.2.2.1.1 (fun j h1 h2 => hL j (by omega) (by omega))
  have k2 := KpI_L (L' := M' 54) hs I.2.2.2.2.2.1.2.1 (fun j h1 h2 => hL j (by omega) (by omega))
  have k3 := KpI_L (L' := M' 54) hs I.2.2.2.2.2.1.2.2 (fun j h1 h2 => hL j (by omega) (by omega))
  unfold Inv
  rw [hc 0 (by decide) (by decide) (by decide) (by decide) (by decide) (by decide), hc 1 (by decide) (by decide) (by decide) (by decide) (by decide) (by decide), hc 2 (by decide) (by decide) (by decide) (by decide) (by decide) (by decide), hc 3 (by decide) (by decide) (by decide) (by decide) (by decide) (by decide), hc 4 (by decide) (by decide) (by decide) (by decide) (by decide) (by decide), hc 5 (by decide) (by decide) (by decide) (by decide) (by decide) (by decide), hc 6 (by decide) (by decide) (by decide) (by decide) (by decide) (by decide), hc 9 (by decide) (by decide) (by decide) (by decide) (by decide) (by decide), hc 10 (by decide) (by decide) (by decide) (by decide) (by decide) (by decide), hc 11 (by decide) (by decide) (by decide) (by decide) (by decide) (by decide)]
  rw [hc 12 (by decide) (by decide) (by decide) (by decide) (by decide) (by decide), hc 13 (by decide) (by decide) (by decide) (by decide) (by decide) (by decide), hc 20 (by decide) (by decide) (by decide) (by decide) (by decide) (by decide), hc 21 (by decide) (by decide) (by decide) (by decide) (by decide) (by decide), hc 22 (by decide) (by decide) (by decide) (by decide) (by decide) (by decide), hc 23 (by decide) (by decide) (by decide) (by decide) (by decide) (by decide), hc 24 (by decide) (by decide) (by decide) (by decide) (by decide) (by decide), hc 25 (by decide) (by decide) (by decide) (by decide) (by decide) (by decide), hc 26 (by decide) (by decide) (by decide) (by decide) (by decide) (by decide), hc 27 (by decide) (by decide) (by decide) (by decide) (by decide) (by decide)]
  rw [hc 28 (by decide) (by decide) (by decide) (by decide) (by decide) (by decide), hc 29 (by decide) (by decide) (by decide) (by decide) (by decide) (by decide), hc 30 (by decide) (by decide) (by decide) (by decide) (by decide) (by decide), hc 31 (by decide) (by decide) (by decide) (by decide) (by decide) (by decide), hc 32 (by decide) (by decide) (by decide) (by decide) (by decide) (by decide), hc 33 (by decide) (by decide) (by decide) (by decide) (by decide) (by decide), hc 34 (by decide) (by decide) (by decide) (by decide) (by decide) (by decide), hc 35 (by decide) (by decide) (by decide) (by decide) (by decide) (by decide), hc 52 (by decide) (by decide) (by decide) (by decide) (by decide) (by decide), hc 53 (by decide) (by decide) (by decide) (by decide) (by decide) (by decide)]
  rw [hc 55 (by decide) (by decide) (by decide) (by decide) (by decide) (by decide), hc 56 (by decide) (by decide) (by decide) (by decide) (by decide) (by decide), hc 57 (by decide) (by decide) (by decide) (by decide) (by decide) (by decide), hc 58 (by decide) (by decide) (by decide) (by decide) (by decide) (by decide), hc 59 (by decide) (by decide) (by decide) (by decide) (by decide) (by decide), hc 60 (by decide) (by decide) (by decide) (by decide) (by decide) (by decide), hc 61 (by decide) (by decide) (by decide) (by decide) (by decide) (by decide)]
  exact ⟨I.1, I.2.1, I.2.2.1, I.2.2.2.1, hD, ⟨k1, k2, k3⟩, I.2.2.2.2.2.2⟩
theorem sp_hasNoLand {M : am_M} (h : Gd11 M) : X_X8_hasNoLand_0 M = some (b2 (M 11 0 = 0), M) := by
  simp only [X_X8_hasNoLand_0, wI_of (x := M 11 0) (by have := h.1; omega) (by have := h.2.1; omega)]
  split
  · rw [b2_t (by assumption)]
  · rw [b2_f (by assumption)]
theorem sp_isCrown {c : Int} (M : am_M) (hc : iR c) : X_X8_isCrown c M = some (b2 (0 ≤ c ∧ c ≤ 1), M) := by
  simp only [X_X8_isCrown, wI_R hc]
  split
  · rw [b2_f (by omega)]
  · split
    · rw [b2_t (by omega)]
    · rw [b2_f (by omega)]
theorem eq_border {M : am_M} (I : Inv M) : Step X_X8_border_0 X_X9_border_53 M := by
  have hG := I.g11
  have hM := I.gM
  have es := I.2.2.2.1.1
  obtain ⟨o1, o2, o3, -⟩ := I.2.2.2.2.1.1
  by_cases c : M 11 0 = 0
  · refine st_same I (v := -4) (w := -4) ?_ ?_ rfl
    · simp only [X_X8_border_0, sp_hasNoLand hG, b2_t c, ob, w1, n10, if_false]
    · simp only [X_X9_border_53, es, c, wI_0, if_true]
  · refine ⟨M 14 1, M 54 1, cT (M 14 0) M, mT (M 54 0) (cT (M 14 0) M), ?_, ?_, ?_, ?_⟩
    · simp only [X_X8_border_0, sp_hasNoLand hG, b2_f c, ob, wI_0, if_true, sp_tell_0]
      rfl
    · have e1 : (cT (M 14 0) M) 53 1 = M 53 1 := rfl
      simp only [X_X9_border_53, e1, es, wI_of (x := M 11 0) (by have := hG.1; omega) (by have := hG.2.1; omega), if_neg c]
      rfl
    · rw [show M 54 1 = M 14 1 from o3]
    · rw [show M 54 0 = M 14 0 from o1]; exact inv_tell I _
theorem eq_rate {M : am_M} (I : Inv M) {c v : Int} (hc : iR c) (hv : iR v) : Step (X_X8_rate_0 c v) (X_X9_rate_53 c v) M := by
  have hG := I.g11
  have hM := I.gM
  have es := I.2.2.2.1.1
  have D := I.2.2.2.2.1
  obtain ⟨o1, o2, o3, o4, o5, o6, o7, o8, o9⟩ := D.1
  have i1 : iR 1 := by unfold iR; omega
  have i9 : iR 9 := by unfold iR; omega
  by_cases q1 : 0 ≤ c ∧ c ≤ 1
  · by_cases q2 : 1 ≤ v ∧ v ≤ 9
    · by_cases q3 : M 11 0 = 0
      · refine st_same I (v := -4) (w := -4) ?_ ?_ rfl
        · simp (disch := omega) only [X_X8_rate_0, sp_isCrown M hc, b2_t q1, ob, w1, n10, if_false, wI_R hv, if_neg, sp_hasNoLand hG, b2_t q3]
        · simp only [X_X9_rate_53, wI_R hc, wI_R hv, sp_in M hc i0 i1, sp_in M hv i1 i9, b2_t q1, b2_t q2, ob, w1, n10, if_false, es, q3, wI_0, if_true]
      · have w11 : wI (M 11 0) = M 11 0 := wI_of (by have := hG.1; omega) (by have := hG.2.1; omega)
        rcases (show c = 0 ∨ c = 1 by omega) with rfl | rfl
        · refine ⟨M 14 2, M 54 2, am_up M 14 2 v, am_up (am_up M 14 2 v) 54 2 v, ?_, ?_, by rw [show M 54 2 = M 14 2 from o5], ?_⟩
          · simp (disch := omega) only [X_X8_rate_0, sp_isCrown M hc, b2_t q1, ob, w1, n10, if_false, wI_R hv, if_neg, sp_hasNoLand hG, b2_f q3, wI_0, if_true, X_X1_rateOf_14, X_X1_setRate_14]
          · have e1 : (am_up M 14 2 v) 53 1 = M 11 0 := es
            have e2 : wI ((2 : Int) + 0) = 2 := rfl
            simp only [X_X9_rate_53, wI_R hc, wI_R hv, sp_in _ hc i0 i1, sp_in _ hv i1 i9, b2_t q1, b2_t q2, ob, w1, n10, if_false, e1, w11, if_neg q3, e2]
            rfl
          · refine inv_days I (fun a h1 h2 h3 h4 h5 h6 => by rw [up_a h6, up_a h1]) (fun j h1 h2 => by
              show (if j = 2 then v else M 54 j) = M 54 j
              rw [if_neg (by omega)]) ?_
            refine ⟨⟨o1, o2, o3, o4, rfl, o6, (by show 0 ≤ v ∧ v ≤ 9; omega), o8, o9⟩, ⟨D.2.1.1, fun j hj => ?_⟩, D.2.2.1, ⟨D.2.2.2.1.1, fun t i ht hi => ?_⟩, fun i hi => ?_⟩
            · have := D.2.1.2 j hj
              show (if 0 + 40 + j = 2 then v else M 54 (0 + 40 + j)) = _ ∧ 0 ≤ (if 0 + 80 + j = 2 then v else M 54 (0 + 80 + j)) ∧ (if 0 + 80 + j = 2 then v else M 54 (0 + 80 + j)) ≤ 99
              rw [if_neg (by omega), if_neg (by omega)]; exact this
            · have := D.2.2.2.1.2 t i ht hi
              show _ = due (M 12) (M 13) 0 i _ ((if 0 + 80 + (10 * t + 9) = 2 then v else M 54 (0 + 80 + (10 * t + 9))) / 10) ∧ _ = due (M 12) (M 13) 1 i _ ((if 0 + 80 + (10 * t + 9) = 2 then v else M 54 (0 + 80 + (10 * t + 9))) % 10)
              rw [if_neg (by omega)]; exact this
            · have := D.2.2.2.2 i hi
              have e : (fun j => (am_up (am_up M 14 2 v) 54 2 v) 54 (0 + 80 + j)) = fun j => M 54 (0 + 80 + j) := by
                funext j
                show (if 0 + 80 + j = 2 then v else M 54 (0 + 80 + j)) = _
                rw [if_neg (by omega)]
              rw [e]
              show (if 0 + 4 + 3 * i = 2 then v else M 54 (0 + 4 + 3 * i)) = _ ∧ (if 0 + 4 + 3 * i + 1 = 2 then v else M 54 (0 + 4 + 3 * i + 1)) = _ ∧ (if 0 + 4 + 3 * i + 2 = 2 then v else M 54 (0 + 4 + 3 * i + 2)) = _
              rw [if_neg (by omega), if_neg (by omega), if_neg (by omega)]; exact this
        · refine ⟨M 14 3, M 54 3, am_up M 14 3 v, am_up (am_up M 14 3 v) 54 3 v, ?_, ?_, by rw [show M 54 3 = M 14 3 from o6], ?_⟩
          · simp (disch := omega) only [X_X8_rate_0, sp_isCrown M hc, b2_t q1, ob, w1, n10, if_false, wI_R hv, if_neg, sp_hasNoLand hG, b2_f q3, wI_0, if_true, X_X1_rateOf_14, X_X1_setRate_14]
          · have e1 : (am_up M 14 3 v) 53 1 = M 11 0 := es
            have e2 : wI ((2 : Int) + 1) = 3 := rfl
            simp only [X_X9_rate_53, wI_R hc, wI_R hv, sp_in _ hc i0 i1, sp_in _ hv i1 i9, b2_t q1, b2_t q2, ob, w1, n10, if_false, e1, w11, if_neg q3, e2]
            rfl
          · refine inv_days I (fun a h1 h2 h3 h4 h5 h6 => by rw [up_a h6, up_a h1]) (fun j h1 h2 => by
              show (if j = 3 then v else M 54 j) = M 54 j
              rw [if_neg (by omega)]) ?_
            refine ⟨⟨o1, o2, o3, o4, o5, rfl, o7, (by show 0 ≤ v ∧ v ≤ 9; omega), o9⟩, ⟨D.2.1.1, fun j hj => ?_⟩, D.2.2.1, ⟨D.2.2.2.1.1, fun t i ht hi => ?_⟩, fun i hi => ?_⟩
            · have := D.2.1.2 j hj
              show (if 0 + 40 + j = 3 then v else M 54 (0 + 40 + j)) = _ ∧ 0 ≤ (if 0 + 80 + j = 3 then v else M 54 (0 + 80 + j)) ∧ (if 0 + 80 + j = 3 then v else M 54 (0 + 80 + j)) ≤ 99
              rw [if_neg (by omega), if_neg (by omega)]; exact this
            · have := D.2.2.2.1.2 t i ht hi
              show _ = due (M 12) (M 13) 0 i _ ((if 0 + 80 + (10 * t + 9) = 3 then v else M 54 (0 + 80 + (10 * t + 9))) / 10) ∧ _ = due (M 12) (M 13) 1 i _ ((if 0 + 80 + (10 * t + 9) = 3 then v else M 54 (0 + 80 + (10 * t + 9))) % 10)
              rw [if_neg (by omega)]; exact this
            · have := D.2.2.2.2 i hi
              have e : (fun j => (am_up (am_up M 14 3 v) 54 3 v) 54 (0 + 80 + j)) = fun j => M 54 (0 + 80 + j) := by
                funext j
                show (if 0 + 80 + j = 3 then v else M 54 (0 + 80 + j)) = _
                rw [if_neg (by omega)]
              rw [e]
              show (if 0 + 4 + 3 * i = 3 then v else M 54 (0 + 4 + 3 * i)) = _ ∧ (if 0 + 4 + 3 * i + 1 = 3 then v else M 54 (0 + 4 + 3 * i + 1)) = _ ∧ (if 0 + 4 + 3 * i + 2 = 3 then v else M 54 (0 + 4 + 3 * i + 2)) = _
              rw [if_neg (by omega), if_neg (by omega), if_neg (by omega)]; exact this
    · refine st_same I (v := -1) (w := -1) ?_ ?_ rfl
      · by_cases q4 : v < 1
        · simp (disch := omega) only [X_X8_rate_0, sp_isCrown M hc, b2_t q1, ob, w1, n10, if_false, wI_R hv, if_pos]
        · simp (disch := omega) only [X_X8_rate_0, sp_isCrown M hc, b2_t q1, ob, w1, n10, if_false, wI_R hv, if_pos, if_neg]
      · simp only [X_X9_rate_53, wI_R hc, wI_R hv, sp_in M hc i0 i1, sp_in M hv i1 i9, b2_t q1, b2_f q2, ob, w1, n10, if_false, wI_0, if_true]
  · refine st_same I (v := -1) (w := -1) ?_ ?_ rfl
    · simp only [X_X8_rate_0, sp_isCrown M hc, b2_f q1, ob, wI_0, if_true]
    · simp only [X_X9_rate_53, wI_R hc, sp_in M hc i0 i1, b2_f q1, ob, wI_0, if_true]
end
section
/-! A day, on both sides. -/
/-- the taxes of the reference's day: the loop over the strips, whatever is due -/
theorem lp_tax (k : Int → am_M → am_Rs) (z : Nat) (hz : z ≤ 484) (d b : Int) (hd : 0 ≤ d ∧ d < 40) (ht : d % 10 = 9) (N : am_M) (hN : 0 ≤ N 53 1 ∧ N 53 1 ≤ 12) (r0 r1 : Int) (F0 F1 : Nat → Int)
    (hP0 : ∀ (M : am_M) (i : Nat), M 53 = N 53 → M 55 = N 55 → M 56 = N 56 → (i : Int) < N 53 1 → X_X9_paysTo_53 i 0 b r0 M = some (F0 i, M))
    (hP1 : ∀ (M : am_M) (i : Nat), M 53 = N 53 → M 55 = N 55 → M 56 = N 56 → (i : Int) < N 53 1 → X_X9_paysTo_53 i 1 b r1 M = some (F1 i, M)) : ∀ (e n : Nat) (M : am_M) (i : Nat), M 53 = N 53 → M 55 = N 55 → M 56 = N 56 → M 54 (z + 2) = r0 → M 54 (z + 3) = r1 → (i : Int) + e = N 53 1 → e < n →
    ∃ L', XL_X9_goOn_53_6 k n z d b i M = k z (am_row M 54 L') ∧ (∀ q : Nat, i ≤ q → (q : Int) < N 53 1 → L' (z + 4 + 3 * q) = M 54 (z + 4 + 3 * q) + F0 q ∧ L' (z + 4 + 3 * q + 1) = M 54 (z + 4 + 3 * q + 1) + F1 q) ∧ ∀ j, (∀ q : Nat, i ≤ q → (q : Int) < N 53 1 → j ≠ z + 4 + 3 * q ∧ j ≠ z + 4 + 3 * q + 1) → L' j = M 54 j := by
  intro e
  induction e with
  | zero =>
    intro n M i m53 m55 m56 h2 h3 hi hn
    obtain ⟨n, rfl⟩ : ∃ m, n = m + 1 := ⟨n - 1, by omega⟩
    refine ⟨M 54, ?_, fun q q1 q2 => by exfalso; omega, fun j _ => rfl⟩
    rw [XL_X9_goOn_53_6, XB_X9_goOn_53_6, m53, wI_of (x := (i : Int)) (by omega) (by omega), wI_of (x := N 53 1) (by omega) (by omega), if_neg (by omega), row_self]
  | succ e ih =>
    intro n M i m53 m55 m56 h2 h3 hi hn
    obtain ⟨n, rfl⟩ : ∃ m, n = m + 1 := ⟨n - 1, by omega⟩
    have e1 : ∀ _ : Unit, wI (z + 4 + 3 * (i : Int)) = ((z + 4 + 3 * i : Nat) : Int) := fun _ => by rw [wI_of (by omega) (by omega)]; push_cast; omega
    have e2 : ∀ _ : Unit, wI (z + 4 + 3 * (i : Int) + 1) = ((z + 4 + 3 * i + 1 : Nat) : Int) := fun _ => by rw [wI_of (by omega) (by omega)]; push_cast; omega
    have e3 : ∀ _ : Unit, wI ((z : Int) + 2) = ((z + 2 : Nat) : Int) := fun _ => by rw [wI_of (by omega) (by omega)]; push_cast; omega
    have e4 : ∀ _ : Unit, wI ((z : Int) + 2 + 1) = ((z + 3 : Nat) : Int) := fun _ => by rw [wI_of (by omega) (by omega)]; push_cast; omega
    have x0 := hP0 M i m53 m55 m56 (by omega)
    obtain ⟨M1, hM1⟩ : ∃ M1, M1 = am_up M 54 (z + 4 + 3 * i) (M 54 (z + 4 + 3 * i) + F0 i) := ⟨_, rfl⟩
    have k53 : M1 53 = N 53 := by rw [hM1, up_a (by decide), m53]
    have k55 : M1 55 = N 55 := by rw [hM1, up_a (by decide), m55]
    have k56 : M1 56 = N 56 := by rw [hM1, up_a (by decide), m56]
    have x1 := hP1 M1 i k53 k55 k56 (by omega)
    have u1 : M1 54 (z + 3) = r1 := by rw [hM1, up_j (by omega), h3]
    have u2 : M1 54 (z + 4 + 3 * i + 1) = M 54 (z + 4 + 3 * i + 1) := by rw [hM1, up_j (by omega)]
    obtain ⟨M2, hM2⟩ : ∃ M2, M2 = am_up M1 54 (z + 4 + 3 * i + 1) (M 54 (z + 4 + 3 * i + 1) + F1 i) := ⟨_, rfl⟩
    have f53 : M2 53 = N 53 := by rw [hM2, up_a (by decide), k53]
    have f55 : M2 55 = N 55 := by rw [hM2, up_a (by decide), k55]
    have f56 : M2 56 = N 56 := by rw [hM2, up_a (by decide), k56]
    have f54 : ∀ j, j ≠ z + 4 + 3 * i → j ≠ z + 4 + 3 * i + 1 → M2 54 j = M 54 j := fun j q1 q2 => by rw [hM2, up_j q2, hM1, up_j q1]
    obtain ⟨L', hL1, hL2, hL3⟩ := ih n M2 (i + 1) f53 f55 f56 (by rw [f54 _ (by omega) (by omega)]; exact h2) (by rw [f54 _ (by omega) (by omega)]; exact h3) (by push_cast; omega) (by omega)
    refine ⟨L', ?_, fun q q1 q2 => ?_, fun j hj => ?_⟩
    · have : XL_X9_goOn_53_6 k (n + 1) z d b i M = XL_X9_goOn_53_6 k n z d b ((i + 1 : Nat) : Int) M2 := by
        rw [XL_X9_goOn_53_6, XB_X9_goOn_53_6, m53, wI_of (x := (i : Int)) (by omega) (by omega), wI_of (x := N 53 1) (by omega) (by omega), if_pos (by omega), sp_isTaxed M (by omega), b2_t ⟨ht, hd.2⟩, ob]
        simp only [w1, n10, if_false, e1 (), e2 (), e3 (), e4 (), Int.toNat_natCast, h2, x0, ob, ← hM1, u1, x1, u2, ← hM2]
        rw [if_pos (by omega), if_pos (by omega), if_pos (by omega), if_pos (by omega), if_pos (by omega), if_pos (by omega), Int.natCast_succ]
      have hr : am_row M2 54 L' = am_row M 54 L' := by rw [hM2, hM1, up_row, up_row, row_row, row_row]
      rw [this, hL1, hr]
    · by_cases hq : q = i
      · subst hq
        rw [hL3 _ (fun q' h1 h2 => by omega), hL3 _ (fun q' h1 h2 => by omega), hM2, up_j (by omega), up_s, hM1, up_s]
        exact ⟨rfl, rfl⟩
      · have := hL2 q (by omega) q2
        rw [f54 _ (by omega) (by omega), f54 _ (by omega) (by omega)] at this
        exact this
    · have h1 := hj i (by omega) (by omega)
      rw [hL3 j (fun q q1 q2 => hj q (by omega) q2), f54 j h1.1 h1.2]
end
section
/-- a day of the reference, at the land that begins at z: whatever lies behind it and whatever is due -/
theorem lp_goOn (z : Nat) (hz : z = 0 ∨ z = 484) {M : am_M} (hG : 0 ≤ M 53 1 ∧ M 53 1 ≤ 12) {x y : Int} (hx : 0 ≤ x ∧ x ≤ 3) (hy : 0 ≤ y ∧ y ≤ 3) {d : Nat} (hd : M 54 z = d) (hd4 : d < 40) (hb : 0 ≤ M 54 (z + 1) ∧ M 54 (z + 1) ≤ M 53 1) (h2 : 0 ≤ M 54 (z + 2) ∧ M 54 (z + 2) ≤ 9) (h3 : 0 ≤ M 54 (z + 3) ∧ M 54 (z + 3) ≤ 9) (hs : 0 < M 53 1) {b' : Int} (hbe : X_X9_behind_53 (M 54 (z + 1)) d x y M = some (b', M)) (hr : 0 ≤ b' ∧ b' ≤ M 53 1) (hmv : b' = M 54 (z + 1) ∨ b' = M 54 (z + 1) - 1 ∨ b' = M 54 (z + 1) + 1) (F0 F1 : Nat → Int)
    (hP0 : ∀ (M' : am_M) (i : Nat), M' 53 = M 53 → M' 55 = M 55 → M' 56 = M 56 → (i : Int) < M 53 1 → X_X9_paysTo_53 i 0 b' (M 54 (z + 2)) M' = some (F0 i, M'))
    (hP1 : ∀ (M' : am_M) (i : Nat), M' 53 = M 53 → M' 55 = M 55 → M' 56 = M 56 → (i : Int) < M 53 1 → X_X9_paysTo_53 i 1 b' (M 54 (z + 3)) M' = some (F1 i, M')) :
    ∃ L', X_X9_goOn_53 z x y M = some (0, am_row M 54 L') ∧ L' z = d + 1 ∧ L' (z + 1) = b' ∧ L' (z + 2) = M 54 (z + 2) ∧ L' (z + 3) = M 54 (z + 3) ∧ L' (z + 40 + d) = 4 * x + y ∧ L' (z + 80 + d) = 10 * M 54 (z + 2) + M 54 (z + 3) ∧
      (∀ q : Nat, (q : Int) < M 53 1 → L' (z + 4 + 3 * q) = M 54 (z + 4 + 3 * q) + (if d % 10 = 9 then F0 q else 0) ∧ L' (z + 4 + 3 * q + 1) = M 54 (z + 4 + 3 * q + 1) + (if d % 10 = 9 then F1 q else 0) ∧ L' (z + 4 + 3 * q + 2) = M 54 (z + 4 + 3 * q + 2) + (if crw q (M 54 (z + 1)) = crw q b' then 0 else 1)) ∧
      ∀ j, (j < z ∨ z + 40 ≤ j) → j ≠ z + 40 + d → j ≠ z + 80 + d → L' j = M 54 j := by
  have g1 := hG.1
  have g2 := hG.2
  -- behind the count of changes
  obtain ⟨M1, hM1⟩ : ∃ M1, M1 = (if b' = M 54 (z + 1) then M else am_up M 54 (z + 4 + 3 * (if b' < M 54 (z + 1) then b' else M 54 (z + 1)).toNat + 2) (M 54 (z + 4 + 3 * (if b' < M 54 (z + 1) then b' else M 54 (z + 1)).toNat + 2) + 1)) := ⟨_, rfl⟩
  have hm0 : 0 ≤ (if b' < M 54 (z + 1) then b' else M 54 (z + 1)) ∧ (if b' < M 54 (z + 1) then b' else M 54 (z + 1)) ≤ 12 := by split <;> omega
  have hm1 : b' ≠ M 54 (z + 1) → (if b' < M 54 (z + 1) then b' else M 54 (z + 1)).toNat < 12 := fun h => by split <;> omega
  have k54 : ∀ j, (∀ q : Nat, q < 12 → j ≠ z + 4 + 3 * q + 2) → M1 54 j = M 54 j := fun j hj => by
    rw [hM1]
    by_cases hbb : b' = M 54 (z + 1)
    · rw [if_pos hbb]
    · rw [if_neg hbb, up_j (hj _ (hm1 hbb))]
  have kc : ∀ a, a ≠ 54 → M1 a = M a := fun a ha => by
    rw [hM1]; split
    · rfl
    · rw [up_a ha]
  have kq : ∀ q : Nat, (q : Int) < M 53 1 → M1 54 (z + 4 + 3 * q + 2) = M 54 (z + 4 + 3 * q + 2) + (if crw q (M 54 (z + 1)) = crw q b' then 0 else 1) := fun q hq => by
    rw [hM1]
    by_cases hbb : b' = M 54 (z + 1)
    · rw [if_pos hbb, hbb, if_pos rfl, Int.add_zero]
    · rw [if_neg hbb]
      by_cases hqq : q = (if b' < M 54 (z + 1) then b' else M 54 (z + 1)).toNat
      · rw [← hqq, up_s]
        congr 1
        split at hqq
        · rw [if_neg (by unfold crw; split <;> split <;> omega)]
        · rw [if_neg (by unfold crw; split <;> split <;> omega)]
      · rw [up_j (by omega)]
        split at hqq
        · rw [if_pos (by unfold crw; split <;> split <;> omega), Int.add_zero]
        · rw [if_pos (by unfold crw; split <;> split <;> omega), Int.add_zero]
  have hstart : X_X9_goOn_53 z x y M = XB_X9_goOn_53_5 (XL_X9_goOn_53_6 XB_X9_goOn_53_9 1000) z x y d b' M1 := by
    have e0 : ∀ _ : Unit, wI ((z : Int) + 0) = ((z : Nat) : Int) := fun _ => by rw [wI_of (by omega) (by omega)]; omega
    have e1 : ∀ _ : Unit, wI ((z : Int) + 1) = ((z + 1 : Nat) : Int) := fun _ => by rw [wI_of (by omega) (by omega)]; push_cast; omega
    rw [X_X9_goOn_53, XB_X9_goOn_53_e]
    simp only [e0 (), e1 (), Int.toNat_natCast, hd, hbe, ob, wI_of (x := b') (by omega) (by omega), wI_of (x := M 54 (z + 1)) (by omega) (by omega)]
    rw [if_pos (by omega), if_pos (by omega)]
    by_cases q1 : b' = M 54 (z + 1)
    · rw [if_pos q1, hM1, if_pos q1]
    · rw [if_neg q1]
      by_cases q2 : b' < M 54 (z + 1)
      · have e2 : ∀ _ : Unit, wI ((z : Int) + 4 + 3 * b' + 2) = ((z + 4 + 3 * b'.toNat + 2 : Nat) : Int) := fun _ => by rw [wI_of (by omega) (by omega)]; push_cast; omega
        simp only [if_pos q2, e2 (), Int.toNat_natCast]
        rw [if_pos (by omega), if_pos (by omega), hM1, if_neg q1]
        simp only [if_pos q2]
      · have e2 : ∀ _ : Unit, wI ((z : Int) + 4 + 3 * M 54 (z + 1) + 2) = ((z + 4 + 3 * (M 54 (z + 1)).toNat + 2 : Nat) : Int) := fun _ => by rw [wI_of (by omega) (by omega)]; push_cast; omega
        simp only [if_neg q2, e2 (), Int.toNat_natCast]
        rw [if_pos (by omega), if_pos (by omega), hM1, if_neg q1]
        simp only [if_neg q2]
  -- behind the notes of the day
  obtain ⟨M2, hM2⟩ : ∃ M2, M2 = am_up (am_up (am_up M1 54 (z + 40 + d) (4 * x + y)) 54 (z + 80 + d) (10 * M 54 (z + 2) + M 54 (z + 3))) 54 (z + 1) b' := ⟨_, rfl⟩
  have hmid : XB_X9_goOn_53_5 (XL_X9_goOn_53_6 XB_X9_goOn_53_9 1000) z x y d b' M1 = XL_X9_goOn_53_6 XB_X9_goOn_53_9 1000 z d b' 0 M2 := by
    have e0 : ∀ _ : Unit, wI ((z : Int) + 40 + d) = ((z + 40 + d : Nat) : Int) := fun _ => by rw [wI_of (by omega) (by omega)]; push_cast; omega
    have e1 : ∀ _ : Unit, wI ((z : Int) + 80 + d) = ((z + 80 + d : Nat) : Int) := fun _ => by rw [wI_of (by omega) (by omega)]; push_cast; omega
    have e2 : ∀ _ : Unit, wI ((z : Int) + 2) = ((z + 2 : Nat) : Int) := fun _ => by rw [wI_of (by omega) (by omega)]; push_cast; omega
    have e3 : ∀ _ : Unit, wI ((z : Int) + 2 + 1) = ((z + 3 : Nat) : Int) := fun _ => by rw [wI_of (by omega) (by omega)]; push_cast; omega
    have e4 : ∀ _ : Unit, wI ((z : Int) + 1) = ((z + 1 : Nat) : Int) := fun _ => by rw [wI_of (by omega) (by omega)]; push_cast; omega
    have u1 : (am_up M1 54 (z + 40 + d) (4 * x + y)) 54 (z + 2) = M 54 (z + 2) := by rw [up_j (by omega), k54 _ (fun q hq => by omega)]
    have u2 : (am_up M1 54 (z + 40 + d) (4 * x + y)) 54 (z + 3) = M 54 (z + 3) := by rw [up_j (by omega), k54 _ (fun q hq => by omega)]
    rw [XB_X9_goOn_53_5]
    simp only [e0 (), e1 (), e2 (), e3 (), e4 (), Int.toNat_natCast, u1, u2]
    rw [if_pos (by omega), if_pos (by omega), if_pos (by omega), if_pos (by omega), if_pos (by omega), hM2]
  have n53 : M2 53 = M 53 := by rw [hM2, up_a (by decide), up_a (by decide), up_a (by decide), kc 53 (by decide)]
  have n55 : M2 55 = M 55 := by rw [hM2, up_a (by decide), up_a (by decide), up_a (by decide), kc 55 (by decide)]
  have n56 : M2 56 = M 56 := by rw [hM2, up_a (by decide), up_a (by decide), up_a (by decide), kc 56 (by decide)]
  have n54 : ∀ j, j ≠ z + 1 → j ≠ z + 40 + d → j ≠ z + 80 + d → M2 54 j = M1 54 j := fun j q1 q2 q3 => by rw [hM2, up_j q1, up_j q3, up_j q2]
  have n1 : M2 54 (z + 1) = b' := by rw [hM2, up_s]
  have n40 : M2 54 (z + 40 + d) = 4 * x + y := by rw [hM2, up_j (by omega), up_j (by omega), up_s]
  have n80 : M2 54 (z + 80 + d) = 10 * M 54 (z + 2) + M 54 (z + 3) := by rw [hM2, up_j (by omega), up_s]
  have n2 : M2 54 (z + 2) = M 54 (z + 2) := by rw [n54 _ (by omega) (by omega) (by omega), k54 _ (fun q hq => by omega)]
  have n3 : M2 54 (z + 3) = M 54 (z + 3) := by rw [n54 _ (by omega) (by omega) (by omega), k54 _ (fun q hq => by omega)]
  have n0 : M2 54 z = d := by rw [n54 _ (by omega) (by omega) (by omega), k54 _ (fun q hq => by omega), hd]
  have hrow : ∃ f, M2 = am_row M 54 f := by
    refine ⟨M2 54, ?_⟩
    funext a
    by_cases ha : a = 54
    · subst ha; rw [row_s]
    · rw [row_a ha, hM2, up_a ha, up_a ha, up_a ha, kc a ha]
  -- the loop
  have hloop : ∃ L', XL_X9_goOn_53_6 XB_X9_goOn_53_9 1000 z d b' 0 M2 = XB_X9_goOn_53_9 z (am_row M2 54 L') ∧ (∀ q : Nat, (q : Int) < M 53 1 → L' (z + 4 + 3 * q) = M2 54 (z + 4 + 3 * q) + (if d % 10 = 9 then F0 q else 0) ∧ L' (z + 4 + 3 * q + 1) = M2 54 (z + 4 + 3 * q + 1) + (if d % 10 = 9 then F1 q else 0)) ∧ ∀ j, (∀ q : Nat, (q : Int) < M 53 1 → j ≠ z + 4 + 3 * q ∧ j ≠ z + 4 + 3 * q + 1) → L' j = M2 54 j := by
    by_cases ht : d % 10 = 9
    · obtain ⟨L', q1, q2, q3⟩ := lp_tax XB_X9_goOn_53_9 z (by omega) d b' (by omega) (by omega) M hG (M 54 (z + 2)) (M 54 (z + 3)) F0 F1 hP0 hP1 (M 53 1).toNat 1000 M2 0 n53 n55 n56 n2 n3 (by omega) (by omega)
      refine ⟨L', q1, fun q hq => ?_, fun j hj => q3 j (fun q _ hq => hj q hq)⟩
      simp only [if_pos ht]
      exact q2 q (by omega) hq
    · refine ⟨M2 54, ?_, fun q hq => by simp only [if_neg ht, Int.add_zero]; exact ⟨trivial, trivial⟩, fun j _ => rfl⟩
      rw [XL_X9_goOn_53_6, XB_X9_goOn_53_6, wI_0, n53, wI_of (x := M 53 1) (by omega) (by omega), if_pos hs, sp_isTaxed M2 (by omega), b2_f (by omega), ob]
      simp only [wI_0, if_true]
      rw [row_self]
  obtain ⟨L1, hl1, hl2, hl3⟩ := hloop
  obtain ⟨f, hf⟩ := hrow
  have l0 : L1 z = d := by rw [hl3 z (fun q hq => by omega), n0]
  refine ⟨fun j => if j = z then (d : Int) + 1 else L1 j, ?_, by simp, ?_, ?_, ?_, ?_, ?_, fun q hq => ?_, fun j q1 q2 q3 => ?_⟩
  · have e0 : ∀ _ : Unit, wI ((z : Int) + 0) = ((z : Nat) : Int) := fun _ => by rw [wI_of (by omega) (by omega)]; omega
    rw [hstart, hmid, hl1, XB_X9_goOn_53_9]
    simp only [e0 (), Int.toNat_natCast, row_s, l0]
    rw [if_pos (by omega), if_pos (by omega), hf, row_row, up_row, row_row]
    simp only [row_s]
  · show (if z + 1 = z then (d : Int) + 1 else L1 (z + 1)) = b'
    rw [if_neg (by omega), hl3 _ (fun q hq => by omega), n1]
  · show (if z + 2 = z then (d : Int) + 1 else L1 (z + 2)) = _
    rw [if_neg (by omega), hl3 _ (fun q hq => by omega), n2]
  · show (if z + 3 = z then (d : Int) + 1 else L1 (z + 3)) = _
    rw [if_neg (by omega), hl3 _ (fun q hq => by omega), n3]
  · show (if z + 40 + d = z then (d : Int) + 1 else L1 (z + 40 + d)) = _
    rw [if_neg (by omega), hl3 _ (fun q hq => by omega), n40]
  · show (if z + 80 + d = z then (d : Int) + 1 else L1 (z + 80 + d)) = _
    rw [if_neg (by omega), hl3 _ (fun q hq => by omega), n80]
  · have := hl2 q hq
    rw [n54 _ (by omega) (by omega) (by omega), n54 _ (by omega) (by omega) (by omega), k54 _ (fun q' hq' => by omega), k54 _ (fun q' hq' => by omega)] at this
    refine ⟨?_, ?_, ?_⟩
    · show (if z + 4 + 3 * q = z then (d : Int) + 1 else L1 (z + 4 + 3 * q)) = _
      rw [if_neg (by omega)]; exact this.1
    · show (if z + 4 + 3 * q + 1 = z then (d : Int) + 1 else L1 (z + 4 + 3 * q + 1)) = _
      rw [if_neg (by omega)]; exact this.2
    · show (if z + 4 + 3 * q + 2 = z then (d : Int) + 1 else L1 (z + 4 + 3 * q + 2)) = _
      rw [if_neg (by omega), hl3 _ (fun q' hq' => by omega), n54 _ (by omega) (by omega) (by omega), kq q hq]
  · show (if j = z then (d : Int) + 1 else L1 j) = _
    rw [if_neg (by omega), hl3 _ (fun q' hq' => by omega), n54 _ (by omega) q2 q3, k54 _ (fun q' hq' => by omega)]
end
