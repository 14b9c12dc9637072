/-! A day, on both sides. -/
/-- the taxes of the reference's day: the loop over the strips, whatever is due -/
theorem lp_tax (k : Int → am_M → am_Rs) (z : Nat) (hz : z ≤ 484) (d b : Int) (hd : 0 ≤ d ∧ d < 40) (ht : d % 10 = 9) (N : am_M) (hN : 0 ≤ N 53 1 ∧ N 53 1 ≤ 12) (r0 r1 : Int) (F0 F1 : Nat → Int)
    (hP0 : ∀ (M : am_M) (i : Nat), M 53 = N 53 → M 55 = N 55 → M 56 = N 56 → (i : Int) < N 53 1 → X_X9_paysTo_53 i 0 b r0 M = some (F0 i, M))
    (hP1 : ∀ (M : am_M) (i : Nat), M 53 = N 53 → M 55 = N 55 → M 56 = N 56 → (i : Int) < N 53 1 → X_X9_paysTo_53 i 1 b r1 M = some (F1 i, M)) : ∀ (e n : Nat) (M : am_M) (i : Nat), M 53 = N 53 → M 55 = N 55 → M 56 = N 56 → M 54 (z + 2) = r0 → M 54 (z + 3) = r1 → (i : Int) + e = N 53 1 → e < n →
    ∃ L', XL_X9_goOn_53_6 k n z d b i M = k z (am_row M 54 L') ∧ (∀ q : Nat, i ≤ q → (q : Int) < N 53 1 → L' (z + 4 + 3 * q) = M 54 (z + 4 + 3 * q) + F0 q ∧ L' (z + 4 + 3 * q + 1) = M 54 (z + 4 + 3 * q + 1) + F1 q) ∧ ∀ j, (∀ q : Nat, i ≤ q → (q : Int) < N 53 1 → j ≠ z + 4 + 3 * q ∧ j ≠ z + 4 + 3 * q + 1) → L' j = M 54 j := by
  intro e
  induction e with
  | zero =>
    intro n M i m53 m55 m56 h2 h3 hi hn
    obtain ⟨n, rfl⟩ : ∃ m, n = m + 1 := ⟨n - 1, by omega⟩
    refine ⟨M 54, ?_, fun q q1 q2 => by exfalso; omega, fun j _ => rfl⟩
    rw [XL_X9_goOn_53_6, XB_X9_goOn_53_6, m53, wI_of (x := (i : Int)) (by omega) (by omega), wI_of (x := N 53 1) (by omega) (by omega), if_neg (by omega), row_self]
  | succ e ih =>
    intro n M i m53 m55 m56 h2 h3 hi hn
    obtain ⟨n, rfl⟩ : ∃ m, n = m + 1 := ⟨n - 1, by omega⟩
    have e1 : ∀ _ : Unit, wI (z + 4 + 3 * (i : Int)) = ((z + 4 + 3 * i : Nat) : Int) := fun _ => by rw [wI_of (by omega) (by omega)]; push_cast; omega
    have e2 : ∀ _ : Unit, wI (z + 4 + 3 * (i : Int) + 1) = ((z + 4 + 3 * i + 1 : Nat) : Int) := fun _ => by rw [wI_of (by omega) (by omega)]; push_cast; omega
    have e3 : ∀ _ : Unit, wI ((z : Int) + 2) = ((z + 2 : Nat) : Int) := fun _ => by rw [wI_of (by omega) (by omega)]; push_cast; omega
    have e4 : ∀ _ : Unit, wI ((z : Int) + 2 + 1) = ((z + 3 : Nat) : Int) := fun _ => by rw [wI_of (by omega) (by omega)]; push_cast; omega
    have x0 := hP0 M i m53 m55 m56 (by omega)
    obtain ⟨M1, hM1⟩ : ∃ M1, M1 = am_up M 54 (z + 4 + 3 * i) (M 54 (z + 4 + 3 * i) + F0 i) := ⟨_, rfl⟩
    have k53 : M1 53 = N 53 := by rw [hM1, up_a (by decide), m53]
    have k55 : M1 55 = N 55 := by rw [hM1, up_a (by decide), m55]
    have k56 : M1 56 = N 56 := by rw [hM1, up_a (by decide), m56]
    have x1 := hP1 M1 i k53 k55 k56 (by omega)
    have u1 : M1 54 (z + 3) = r1 := by rw [hM1, up_j (by omega), h3]
    have u2 : M1 54 (z + 4 + 3 * i + 1) = M 54 (z + 4 + 3 * i + 1) := by rw [hM1, up_j (by omega)]
    obtain ⟨M2, hM2⟩ : ∃ M2, M2 = am_up M1 54 (z + 4 + 3 * i + 1) (M 54 (z + 4 + 3 * i + 1) + F1 i) := ⟨_, rfl⟩
    have f53 : M2 53 = N 53 := by rw [hM2, up_a (by decide), k53]
    have f55 : M2 55 = N 55 := by rw [hM2, up_a (by decide), k55]
    have f56 : M2 56 = N 56 := by rw [hM2, up_a (by decide), k56]
    have f54 : ∀ j, j ≠ z + 4 + 3 * i → j ≠ z + 4 + 3 * i + 1 → M2 54 j = M 54 j := fun j q1 q2 => by rw [hM2, up_j q2, hM1, up_j q1]
    obtain ⟨L', hL1, hL2, hL3⟩ := ih n M2 (i + 1) f53 f55 f56 (by rw [f54 _ (by omega) (by omega)]; exact h2) (by rw [f54 _ (by omega) (by omega)]; exact h3) (by push_cast; omega) (by omega)
    refine ⟨L', ?_, fun q q1 q2 => ?_, fun j hj => ?_⟩
    · have : XL_X9_goOn_53_6 k (n + 1) z d b i M = XL_X9_goOn_53_6 k n z d b ((i + 1 : Nat) : Int) M2 := by
        rw [XL_X9_goOn_53_6, XB_X9_goOn_53_6, m53, wI_of (x := (i : Int)) (by omega) (by omega), wI_of (x := N 53 1) (by omega) (by omega), if_pos (by omega), sp_isTaxed M (by omega), b2_t ⟨ht, hd.2⟩, ob]
        simp only [w1, n10, if_false, e1 (), e2 (), e3 (), e4 (), Int.toNat_natCast, h2, x0, ob, ← hM1, u1, x1, u2, ← hM2]
        rw [if_pos (by omega), if_pos (by omega), if_pos (by omega), if_pos (by omega), if_pos (by omega), if_pos (by omega), Int.natCast_succ]
      have hr : am_row M2 54 L' = am_row M 54 L' := by rw [hM2, hM1, up_row, up_row, row_row, row_row]
      rw [this, hL1, hr]
    · by_cases hq : q = i
      · subst hq
        rw [hL3 _ (fun q' h1 h2 => by omega), hL3 _ (fun q' h1 h2 => by omega), hM2, up_j (by omega), up_s, hM1, up_s]
        exact ⟨rfl, rfl⟩
      · have := hL2 q (by omega) q2
        rw [f54 _ (by omega) (by omega), f54 _ (by omega) (by omega)] at this
        exact this
    · have h1 := hj i (by omega) (by omega)
      rw [hL3 j (fun q q1 q2 => hj q (by omega) q2), f54 j h1.1 h1.2]
