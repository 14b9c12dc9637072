/-! The mean, copies. -/
noncomputable def sf (a : Nat → Int) : Nat → Nat → Int
  | _, 0 => 0
  | i, d + 1 => a i + sf a (i + 1) d
theorem sf_c {a b : Nat → Int} : ∀ (d i : Nat), (∀ j, i ≤ j → j < i + d → a j = b j) → sf a i d = sf b i d
  | 0, i, h => rfl
  | d + 1, i, h => by
    simp only [sf]
    rw [h i (by omega) (by omega), sf_c d (i + 1) (fun j h1 h2 => h j (by omega) (by omega))]
theorem lp_sum (k : Int → am_M → am_Rs) : ∀ (d n : Nat) (M : am_M) (r acc : Int) (i : Nat), Sh1 M → (∀ j, iR (M 3 j)) → 0 ≤ r → r < 6 → (i : Int) + d = M 2 r.toNat → d < n → XL_X6_sum_1_1 k n r acc i M = k (acc + sf (fun j => M 3 (40 * r.toNat + j)) i d) M
  | 0, n + 1, M, r, acc, i, hS, h3, hr, hr2, hi, hn => by
    have h1 := hS.2.2.2 r.toNat
    simp (disch := omega) only [XL_X6_sum_1_1, XB_X6_sum_1_1, sp_sizeOf_1 hS (show iR r by unfold iR; omega), ob, if_pos (show 0 ≤ r ∧ r < 6 by omega), wI_of (x := M 2 r.toNat), wI_of (x := (i : Int)), if_neg, sf, Int.add_zero]
  | d + 1, n + 1, M, r, acc, i, hS, h3, hr, hr2, hi, hn => by
    have h1 := hS.2.2.2 r.toNat
    have e : (40 * r + (i : Int)).toNat = 40 * r.toNat + i := by omega
    simp (disch := omega) only [XL_X6_sum_1_1, XB_X6_sum_1_1, sp_sizeOf_1 hS (show iR r by unfold iR; omega), ob, if_pos (show 0 ≤ r ∧ r < 6 by omega), wI_of (x := M 2 r.toNat), wI_of (x := (i : Int)), if_pos, sp_get_1 hS (show 0 ≤ r ∧ r < 6 by omega) (show iR (i : Int) by unfold iR; omega), e, wI_R (h3 _)]
    have := lp_sum k d n M r (acc + M 3 (40 * r.toNat + i)) (i + 1) hS h3 hr hr2 (by push_cast; omega) (by omega)
    rw [show ((i + 1 : Nat) : Int) = (i : Int) + 1 from rfl] at this
    rw [this]
    simp only [sf, Int.add_assoc]
theorem lp_mean (k : Int → Int → am_M → am_Rs) : ∀ (d n : Nat) (M : am_M) (r acc : Int) (i : Nat), (∀ j : Nat, j < 40 → (j : Int) < M 57 r.toNat → iR (M 58 (40 * r.toNat + j))) → M 57 r.toNat ≤ 40 → 0 ≤ r → r < 6 → (i : Int) + d = M 57 r.toNat → d < n → XL_X9_mean_53_7 k n r acc i M = k r (acc + sf (fun j => M 58 (40 * r.toNat + j)) i d) M
  | 0, n + 1, M, r, acc, i, h3, h4, hr, hr2, hi, hn => by
    simp (disch := omega) only [XL_X9_mean_53_7, XB_X9_mean_53_7, wI_of (x := r), if_pos (show 0 ≤ r ∧ r < 6 by omega), wI_of (x := M 57 r.toNat), wI_of (x := (i : Int)), if_neg, sf, Int.add_zero]
  | d + 1, n + 1, M, r, acc, i, h3, h4, hr, hr2, hi, hn => by
    have e : (40 * r + (i : Int)).toNat = 40 * r.toNat + i := by omega
    simp (disch := omega) only [XL_X9_mean_53_7, XB_X9_mean_53_7, wI_of (x := r), if_pos (show 0 ≤ r ∧ r < 6 by omega), wI_of (x := M 57 r.toNat), wI_of (x := (i : Int)), wI_of (x := 40 * r + (i : Int)), if_pos, e, wI_R (h3 i (by omega) (by omega))]
    have := lp_mean k d n M r (acc + M 58 (40 * r.toNat + i)) (i + 1) h3 h4 hr hr2 (by push_cast; omega) (by omega)
    rw [show ((i + 1 : Nat) : Int) = (i : Int) + 1 from rfl] at this
    rw [this]
    simp only [sf, Int.add_assoc]
theorem eq_mean {M : am_M} (I : Inv M) {r : Int} (hr : iR r) : Step (X_X8_mean_0 r) (X_X9_mean_53 r) M := by
  have hS := I.sh1
  obtain ⟨e57, h2, h3, h4⟩ := I.2.1
  by_cases c : 0 ≤ r ∧ r < 6
  · have h1 := h2 r.toNat
    by_cases c1 : 0 ≤ M 2 r.toNat
    · by_cases c2 : M 2 r.toNat < 1
      · refine st_find I (f := 4) ?_ ?_
        · simp (disch := omega) only [X_X8_mean_0, sp_isNumber_1 hS hr, b2_t c, ob, w1, n10, if_false, sp_isThere_1 hS c, b2_t c1, sp_sizeOf_1 hS hr, if_pos c, wI_of (x := M 2 r.toNat), if_pos c2, f_c4]
        · have q57 : (cF 4 M) 57 r.toNat = M 2 r.toNat := by show M 57 r.toNat = _; rw [e57]
          simp (disch := omega) only [X_X9_mean_53, XB_X9_mean_53_e, sp_isRow _ hr, b2_t c, ob, w1, n10, if_false, wI_R hr, q57, wI_of (x := M 2 r.toNat), if_neg, if_pos, f_m4]
      · have hsum : sf (fun j => M 58 (40 * r.toNat + j)) 0 (M 2 r.toNat).toNat = sf (fun j => M 3 (40 * r.toNat + j)) 0 (M 2 r.toNat).toNat := sf_c _ 0 (fun j _ hj => h4 r.toNat j (by omega) (by omega))
        obtain ⟨V, hV⟩ : ∃ V, V = (wL (0 + sf (fun j => M 3 (40 * r.toNat + j)) 0 (M 2 r.toNat).toNat)).tdiv (M 2 r.toNat) := ⟨_, rfl⟩
        have hw : wL (M 2 r.toNat) = M 2 r.toNat := wL_of (by omega) (by omega)
        refine st_tell I (v := V) (w := V) rfl ?_ ?_
        · have hL := lp_sum XB_X6_sum_1_3 (M 2 r.toNat).toNat 1000 M r 0 0 hS h3 c.1 c.2 (by omega) (by omega)
          rw [show ((0 : Nat) : Int) = 0 from rfl] at hL
          simp (disch := omega) only [X_X8_mean_0, sp_isNumber_1 hS hr, b2_t c, ob, w1, n10, if_false, sp_isThere_1 hS c, b2_t c1, sp_sizeOf_1 hS hr, if_pos c, wI_of (x := M 2 r.toNat), if_neg c2, X_X6_sum_1, XB_X6_sum_1_e, hL, XB_X6_sum_1_3, hw, if_pos, sp_tell_0, ← hV]
        · have q57 : (cT V M) 57 r.toNat = M 2 r.toNat := by show M 57 r.toNat = _; rw [e57]
          have hL := lp_mean XB_X9_mean_53_9 (M 2 r.toNat).toNat 1000 (cT V M) r 0 0 (fun j _ hj => by
            rw [q57] at hj
            show iR (M 58 (40 * r.toNat + j))
            rw [h4 r.toNat j (by omega) hj]; exact h3 _) (by rw [q57]; omega) c.1 c.2 (by rw [q57]; omega) (by omega)
          rw [show ((0 : Nat) : Int) = 0 from rfl] at hL
          have hV2 : (wL (0 + sf (fun j => (cT V M) 58 (40 * r.toNat + j)) 0 (M 2 r.toNat).toNat)).tdiv (M 2 r.toNat) = V := by rw [hV, ← hsum]; rfl
          simp (disch := omega) only [X_X9_mean_53, XB_X9_mean_53_e, sp_isRow _ hr, b2_t c, ob, w1, n10, if_false, wI_R hr, q57, wI_of (x := M 2 r.toNat), if_neg, if_pos, hL, XB_X9_mean_53_9, hw, hV2, sp_tell_53]
    · refine st_find I (f := 1) ?_ ?_
      · simp (disch := omega) only [X_X8_mean_0, sp_isNumber_1 hS hr, b2_t c, ob, w1, n10, if_false, sp_isThere_1 hS c, b2_f c1, wI_0, if_true, f_c1]
      · have q57 : (cF 1 M) 57 r.toNat = M 2 r.toNat := by show M 57 r.toNat = _; rw [e57]
        simp (disch := omega) only [X_X9_mean_53, XB_X9_mean_53_e, sp_isRow _ hr, b2_t c, ob, w1, n10, if_false, wI_R hr, q57, wI_of (x := M 2 r.toNat), if_pos, f_m1]
  · refine st_same I (v := -1) (w := -1) ?_ ?_ rfl
    · simp only [X_X8_mean_0, sp_isNumber_1 hS hr, b2_f c, ob, wI_0, if_true]
    · simp only [X_X9_mean_53, XB_X9_mean_53_e, sp_isRow _ hr, b2_f c, ob, wI_0, if_true]
theorem sp_holds {M : am_M} (h : Sh1 M) {r i n : Int} (hr : 0 ≤ r ∧ r < 6) (hi : iR i) (hn : iR n) : X_X6_holds_1 r i n M = some (b2 (0 ≤ i ∧ 0 ≤ n ∧ i + n ≤ M 2 r.toNat), M) := by
  have h1 := h.2.2.2 r.toNat
  obtain ⟨i1, i2⟩ := hi
  obtain ⟨n1, n2⟩ := hn
  have h2 : X_X6_sizeOf_1 r M = some (M 2 r.toNat, M) := by rw [sp_sizeOf_1 h (by unfold iR; omega), if_pos hr]
  by_cases c1 : i < 0
  · rw [b2_f (by omega)]
    simp (disch := omega) only [X_X6_holds_1, wI_of, if_pos]
  · by_cases c2 : n < 0
    · rw [b2_f (by omega)]
      simp (disch := omega) only [X_X6_holds_1, wI_of, if_pos, if_neg]
    · by_cases c3 : i + n ≤ M 2 r.toNat
      · rw [b2_t (by omega)]
        simp (disch := omega) only [X_X6_holds_1, wI_of, h2, ob, if_neg]
      · rw [b2_f (by omega)]
        simp (disch := omega) only [X_X6_holds_1, wI_of, h2, ob, if_pos, if_neg]
theorem sp_bring {M : am_M} (hS : Sh1 M) {r i t j n : Int} (c : 0 ≤ r ∧ r < 6) (c' : 0 ≤ t ∧ t < 6) (hi : iR i) (hj : iR j) (hn : iR n) (d1 : 0 ≤ i ∧ 0 ≤ n ∧ i + n ≤ M 2 r.toNat) (d2 : 0 ≤ j ∧ 0 ≤ n ∧ j + n ≤ M 2 t.toNat) : X_X6_bring_1 r i t j n M = some (0, am_cpy M 3 3 (40 * r + i).toNat (40 * t + j).toNat n.toNat) := by
  have h1 := hS.2.2.2 r.toNat
  have h1' := hS.2.2.2 t.toNat
  have e1 : wI (r * 40 + i) = 40 * r + i := by rw [wI_of (by omega) (by omega)]; omega
  have e2 : wI (t * 40 + j) = 40 * t + j := by rw [wI_of (by omega) (by omega)]; omega
  have e3 : wI n = n := wI_of (by omega) (by omega)
  simp only [X_X6_bring_1, sp_holds hS c hi hn, sp_holds hS c' hj hn, b2_t d1, b2_t d2, ob, w1, n10, if_false, hS.2.1, e1, e2, e3]
  rw [if_pos (by omega)]
theorem sp_isSpan {M : am_M} (hs : ∀ r, -1 ≤ M 57 r ∧ M 57 r ≤ 40) {r i n : Int} (hr : 0 ≤ r ∧ r < 6) (hi : iR i) (hn : iR n) : X_X9_isSpan_53 r i n M = some (b2 (0 ≤ i ∧ i + n ≤ M 57 r.toNat), M) := by
  have h1 := hs r.toNat
  obtain ⟨i1, i2⟩ := hi
  obtain ⟨n1, n2⟩ := hn
  by_cases c1 : i < 0
  · rw [b2_f (by omega)]
    simp (disch := omega) only [X_X9_isSpan_53, wI_of, if_pos]
  · by_cases c3 : i + n ≤ M 57 r.toNat
    · rw [b2_t (by omega)]
      simp (disch := omega) only [X_X9_isSpan_53, lc_gt, wI_of, wL_of, if_pos, if_neg]
    · rw [b2_f (by omega)]
      simp (disch := omega) only [X_X9_isSpan_53, lc_gt, wI_of, wL_of, if_pos, if_neg]
theorem lp_copyF (k : am_M → am_Rs) : ∀ (d f : Nat) (M : am_M) (r i t j n q : Int), 0 ≤ r → r < 6 → 0 ≤ t → t < 6 → 0 ≤ i → 0 ≤ j → i + n ≤ 40 → j + n ≤ 40 → 0 ≤ q → q ≤ n → (40 * t + j ≤ 40 * r + i ∨ 40 * r + i + n ≤ 40 * t + j) → (n - q).toNat = d → d < f →
    XL_X9_copy_53_15 k f r i t j n 0 q M = k (am_row M 58 fun x => if 40 * t + j + q ≤ (x : Int) ∧ (x : Int) < 40 * t + j + n then M 58 (40 * r + i + ((x : Int) - (40 * t + j))).toNat else M 58 x)
  | 0, f + 1, M, r, i, t, j, n, q, hr, hr2, ht, ht2, hi, hj, h1, h2, hq, hqn, ho, hd, hf => by
    have e : ∀ x : Nat, ¬ (40 * t + j + q ≤ (x : Int) ∧ (x : Int) < 40 * t + j + n) := fun x => by omega
    simp (disch := omega) only [XL_X9_copy_53_15, XB_X9_copy_53_15, wI_of, if_neg, e, if_false]
    rw [row_self]
  | d + 1, f + 1, M, r, i, t, j, n, q, hr, hr2, ht, ht2, hi, hj, h1, h2, hq, hqn, ho, hd, hf => by
    simp (disch := omega) only [XL_X9_copy_53_15, XB_X9_copy_53_15, wI_0, if_true, wI_of, if_pos]
    rw [lp_copyF k d f _ r i t j n (q + 1) hr hr2 ht ht2 hi hj h1 h2 (by omega) (by omega) ho (by omega) (by omega), up_row, row_row]
    congr 2
    funext x
    simp only [row_s]
    by_cases hx : x = (40 * t + j + q).toNat
    · rw [if_neg (by omega), if_pos hx, if_pos (by omega)]
      congr 1
      omega
    · by_cases hx2 : 40 * t + j + (q + 1) ≤ (x : Int) ∧ (x : Int) < 40 * t + j + n
      · rw [if_pos hx2, if_neg (by omega), if_pos (by omega)]
      · rw [if_neg hx2, if_neg hx, if_neg (by omega)]
theorem lp_copyB (k : am_M → am_Rs) : ∀ (d f : Nat) (M : am_M) (r i t j n q : Int), 0 ≤ r → r < 6 → 0 ≤ t → t < 6 → 0 ≤ i → 0 ≤ j → i + n ≤ 40 → j + n ≤ 40 → 0 ≤ q → q ≤ n → (40 * r + i ≤ 40 * t + j ∨ 40 * t + j + n ≤ 40 * r + i) → (n - q).toNat = d → d < f →
    XL_X9_copy_53_15 k f r i t j n 1 q M = k (am_row M 58 fun x => if 40 * t + j ≤ (x : Int) ∧ (x : Int) < 40 * t + j + (n - q) then M 58 (40 * r + i + ((x : Int) - (40 * t + j))).toNat else M 58 x)
  | 0, f + 1, M, r, i, t, j, n, q, hr, hr2, ht, ht2, hi, hj, h1, h2, hq, hqn, ho, hd, hf => by
    have e : ∀ x : Nat, ¬ (40 * t + j ≤ (x : Int) ∧ (x : Int) < 40 * t + j + (n - q)) := fun x => by omega
    simp (disch := omega) only [XL_X9_copy_53_15, XB_X9_copy_53_15, wI_of, if_neg, e, if_false]
    rw [row_self]
  | d + 1, f + 1, M, r, i, t, j, n, q, hr, hr2, ht, ht2, hi, hj, h1, h2, hq, hqn, ho, hd, hf => by
    simp (disch := omega) only [XL_X9_copy_53_15, XB_X9_copy_53_15, w1, n10, if_false, wI_of, if_pos]
    rw [lp_copyB k d f _ r i t j n (q + 1) hr hr2 ht ht2 hi hj h1 h2 (by omega) (by omega) ho (by omega) (by omega), up_row, row_row]
    congr 2
    funext x
    simp only [row_s]
    by_cases hx : x = (40 * t + j + (n - 1 - q)).toNat
    · rw [if_neg (by omega), if_pos hx, if_pos (by omega)]
      congr 1
      omega
    · by_cases hx2 : 40 * t + j ≤ (x : Int) ∧ (x : Int) < 40 * t + j + (n - (q + 1))
      · rw [if_pos hx2, if_neg (by omega), if_pos (by omega)]
      · rw [if_neg hx2, if_neg hx, if_neg (by omega)]
theorem eq_copy {M : am_M} (I : Inv M) {r i t j n : Int} (hr : iR r) (hi : iR i) (ht : iR t) (hj : iR j) (hn : iR n) : Step (X_X8_copy_0 r i t j n) (X_X9_copy_53 r i t j n) M := by
  have hS := I.sh1
  obtain ⟨e57, h2, h3, h4⟩ := I.2.1
  by_cases c : 0 ≤ r ∧ r < 6
  · by_cases c' : 0 ≤ t ∧ t < 6
    · have h1 := h2 r.toNat
      have h1' := h2 t.toNat
      by_cases c0 : n < 0
      · refine st_find I (f := 5) ?_ ?_
        · simp (disch := omega) only [X_X8_copy_0, sp_isNumber_1 hS hr, b2_t c, ob, w1, n10, if_false, sp_isNumber_1 hS ht, b2_t c', wI_R hn, if_pos c0, f_c5]
        · simp (disch := omega) only [X_X9_copy_53, XB_X9_copy_53_e, sp_isRow _ hr, b2_t c, ob, w1, n10, if_false, sp_isRow _ ht, b2_t c', wI_R hn, if_pos c0, f_m5]
      · by_cases c1 : 0 ≤ M 2 r.toNat
        · by_cases c1' : 0 ≤ M 2 t.toNat
          · by_cases d1 : 0 ≤ i ∧ i + n ≤ M 2 r.toNat
            · by_cases d2 : 0 ≤ j ∧ j + n ≤ M 2 t.toNat
              · have hcl : X_X8_copy_0 r i t j n M = some (1, am_cpy M 3 3 (40 * r + i).toNat (40 * t + j).toNat n.toNat) := by
                  rw [X_X8_copy_0, sp_isNumber_1 hS hr, b2_t c, ob]
                  simp only [w1, n10, if_false, sp_isNumber_1 hS ht, b2_t c', ob, wI_R hn, if_neg c0, sp_isThere_1 hS c, b2_t c1, sp_isThere_1 hS c', b2_t c1', sp_holds hS c hi hn, sp_holds hS c' hj hn, b2_t (show 0 ≤ i ∧ 0 ≤ n ∧ i + n ≤ M 2 r.toNat by omega), b2_t (show 0 ≤ j ∧ 0 ≤ n ∧ j + n ≤ M 2 t.toNat by omega), sp_bring hS c c' hi hj hn (show 0 ≤ i ∧ 0 ≤ n ∧ i + n ≤ M 2 r.toNat by omega) (show 0 ≤ j ∧ 0 ≤ n ∧ j + n ≤ M 2 t.toNat by omega)]
                have hs : ∀ q, -1 ≤ (am_cpy M 3 3 (40 * r + i).toNat (40 * t + j).toNat n.toNat) 57 q ∧ (am_cpy M 3 3 (40 * r + i).toNat (40 * t + j).toNat n.toNat) 57 q ≤ 40 := fun q => by show -1 ≤ M 57 q ∧ M 57 q ≤ 40; rw [e57]; exact h2 q
                have q57 : ∀ q, (am_cpy M 3 3 (40 * r + i).toNat (40 * t + j).toNat n.toNat) 57 q = M 2 q := fun q => by show M 57 q = _; rw [e57]
                have hgo : ∀ g : Nat → Int, (∀ x : Nat, g x = if 40 * t + j ≤ (x : Int) ∧ (x : Int) < 40 * t + j + n then M 58 (40 * r + i + ((x : Int) - (40 * t + j))).toNat else M 58 x) → Inv (am_row (am_cpy M 3 3 (40 * r + i).toNat (40 * t + j).toNat n.toNat) 58 g) := by
                  intro g hg
                  refine inv_rows I (fun a q1 q2 q3 q4 => by rw [row_a q4, cpy_a q2]) ⟨e57, h2, fun x => ?_, fun q y hq hy => ?_⟩
                  · show iR (va_cpy (M 3) (M 3) (40 * r + i).toNat (40 * t + j).toNat n.toNat x)
                    unfold va_cpy
                    split <;> exact h3 _
                  · have hy' : (y : Int) < M 2 q := hy
                    have hq2 := h2 q
                    show g (40 * q + y) = va_cpy (M 3) (M 3) (40 * r + i).toNat (40 * t + j).toNat n.toNat (40 * q + y)
                    rw [hg]
                    unfold va_cpy
                    by_cases hx : 40 * t + j ≤ ((40 * q + y : Nat) : Int) ∧ ((40 * q + y : Nat) : Int) < 40 * t + j + n
                    · rw [if_pos hx, if_pos (by omega)]
                      have := h4 r.toNat (40 * q + y + i.toNat - (40 * t + j).toNat) (by omega) (by omega)
                      rw [show (40 * r + i + (((40 * q + y : Nat) : Int) - (40 * t + j))).toNat = 40 * r.toNat + (40 * q + y + i.toNat - (40 * t + j).toNat) by omega, this]
                      congr 1
                      omega
                    · rw [if_neg hx, if_neg (by omega), h4 q y hq hy']
                by_cases cd : i < j
                · refine ⟨1, 1, _, am_row (am_cpy M 3 3 (40 * r + i).toNat (40 * t + j).toNat n.toNat) 58 (fun x => if 40 * t + j ≤ (x : Int) ∧ (x : Int) < 40 * t + j + (n - 0) then M 58 (40 * r + i + ((x : Int) - (40 * t + j))).toNat else M 58 x), hcl, ?_, rfl, hgo _ (fun x => by rw [Int.sub_zero])⟩
                  simp (disch := omega) only [X_X9_copy_53, XB_X9_copy_53_e, sp_isRow _ hr, b2_t c, ob, w1, n10, if_false, sp_isRow _ ht, b2_t c', wI_R hn, if_neg c0, wI_R hr, wI_R ht, q57, wI_of (x := M 2 r.toNat), wI_of (x := M 2 t.toNat), sp_isSpan hs c hi hn, sp_isSpan hs c' hj hn, b2_t d1, b2_t d2, wI_R hi, wI_R hj, if_pos cd, if_pos c, if_pos c', if_neg (show ¬ M 2 r.toNat < 0 by omega), if_neg (show ¬ M 2 t.toNat < 0 by omega)]
                  rw [lp_copyB _ n.toNat 1000 _ r i t j n 0 c.1 c.2 c'.1 c'.2 d1.1 d2.1 (by omega) (by omega) (by omega) (by omega) (by omega) (by omega) (by omega)]
                  rfl
                · refine ⟨1, 1, _, am_row (am_cpy M 3 3 (40 * r + i).toNat (40 * t + j).toNat n.toNat) 58 (fun x => if 40 * t + j + 0 ≤ (x : Int) ∧ (x : Int) < 40 * t + j + n then M 58 (40 * r + i + ((x : Int) - (40 * t + j))).toNat else M 58 x), hcl, ?_, rfl, hgo _ (fun x => by rw [Int.add_zero])⟩
                  simp (disch := omega) only [X_X9_copy_53, XB_X9_copy_53_e, sp_isRow _ hr, b2_t c, ob, w1, n10, if_false, sp_isRow _ ht, b2_t c', wI_R hn, if_neg c0, wI_R hr, wI_R ht, q57, wI_of (x := M 2 r.toNat), wI_of (x := M 2 t.toNat), sp_isSpan hs c hi hn, sp_isSpan hs c' hj hn, b2_t d1, b2_t d2, wI_R hi, wI_R hj, if_neg cd, if_pos c, if_pos c', if_neg (show ¬ M 2 r.toNat < 0 by omega), if_neg (show ¬ M 2 t.toNat < 0 by omega)]
                  rw [lp_copyF _ n.toNat 1000 _ r i t j n 0 c.1 c.2 c'.1 c'.2 d1.1 d2.1 (by omega) (by omega) (by omega) (by omega) (by omega) (by omega) (by omega)]
                  rfl
              · have hs : ∀ q, -1 ≤ (cF 2 M) 57 q ∧ (cF 2 M) 57 q ≤ 40 := fun q => by show -1 ≤ M 57 q ∧ M 57 q ≤ 40; rw [e57]; exact h2 q
                have q57 : ∀ q, (cF 2 M) 57 q = M 2 q := fun q => by show M 57 q = _; rw [e57]
                refine st_find I (f := 2) ?_ ?_
                · simp (disch := omega) only [X_X8_copy_0, sp_isNumber_1 hS hr, b2_t c, ob, w1, n10, if_false, sp_isNumber_1 hS ht, b2_t c', wI_R hn, if_neg c0, sp_isThere_1 hS c, b2_t c1, sp_isThere_1 hS c', b2_t c1', sp_holds hS c hi hn, sp_holds hS c' hj hn, b2_t (show 0 ≤ i ∧ 0 ≤ n ∧ i + n ≤ M 2 r.toNat by omega), b2_f (show ¬ (0 ≤ j ∧ 0 ≤ n ∧ j + n ≤ M 2 t.toNat) by omega), wI_0, if_true, f_c2]
                · simp (disch := omega) only [X_X9_copy_53, XB_X9_copy_53_e, sp_isRow _ hr, b2_t c, ob, w1, n10, if_false, sp_isRow _ ht, b2_t c', wI_R hn, if_neg c0, wI_R hr, wI_R ht, q57, wI_of (x := M 2 r.toNat), wI_of (x := M 2 t.toNat), sp_isSpan hs c hi hn, sp_isSpan hs c' hj hn, b2_t d1, b2_f d2, wI_0, if_true, f_m2, if_pos c, if_pos c', if_neg (show ¬ M 2 r.toNat < 0 by omega), if_neg (show ¬ M 2 t.toNat < 0 by omega)]
            · have hs : ∀ q, -1 ≤ (cF 2 M) 57 q ∧ (cF 2 M) 57 q ≤ 40 := fun q => by show -1 ≤ M 57 q ∧ M 57 q ≤ 40; rw [e57]; exact h2 q
              have q57 : ∀ q, (cF 2 M) 57 q = M 2 q := fun q => by show M 57 q = _; rw [e57]
              refine st_find I (f := 2) ?_ ?_
              · simp (disch := omega) only [X_X8_copy_0, sp_isNumber_1 hS hr, b2_t c, ob, w1, n10, if_false, sp_isNumber_1 hS ht, b2_t c', wI_R hn, if_neg c0, sp_isThere_1 hS c, b2_t c1, sp_isThere_1 hS c', b2_t c1', sp_holds hS c hi hn, b2_f (show ¬ (0 ≤ i ∧ 0 ≤ n ∧ i + n ≤ M 2 r.toNat) by omega), wI_0, if_true, f_c2]
              · simp (disch := omega) only [X_X9_copy_53, XB_X9_copy_53_e, sp_isRow _ hr, b2_t c, ob, w1, n10, if_false, sp_isRow _ ht, b2_t c', wI_R hn, if_neg c0, wI_R hr, wI_R ht, q57, wI_of (x := M 2 r.toNat), wI_of (x := M 2 t.toNat), sp_isSpan hs c hi hn, b2_f d1, wI_0, if_true, f_m2, if_pos c, if_pos c', if_neg (show ¬ M 2 r.toNat < 0 by omega), if_neg (show ¬ M 2 t.toNat < 0 by omega)]
          · have q57 : ∀ q, (cF 1 M) 57 q = M 2 q := fun q => by show M 57 q = _; rw [e57]
            refine st_find I (f := 1) ?_ ?_
            · simp (disch := omega) only [X_X8_copy_0, sp_isNumber_1 hS hr, b2_t c, ob, w1, n10, if_false, sp_isNumber_1 hS ht, b2_t c', wI_R hn, if_neg c0, sp_isThere_1 hS c, b2_t c1, sp_isThere_1 hS c', b2_f c1', wI_0, if_true, f_c1]
            · simp (disch := omega) only [X_X9_copy_53, XB_X9_copy_53_e, sp_isRow _ hr, b2_t c, ob, w1, n10, if_false, sp_isRow _ ht, b2_t c', wI_R hn, if_neg c0, wI_R hr, wI_R ht, q57, wI_of (x := M 2 r.toNat), wI_of (x := M 2 t.toNat), if_pos c, if_pos c', if_neg (show ¬ M 2 r.toNat < 0 by omega), if_pos (show M 2 t.toNat < 0 by omega), f_m1]
        · have q57 : ∀ q, (cF 1 M) 57 q = M 2 q := fun q => by show M 57 q = _; rw [e57]
          refine st_find I (f := 1) ?_ ?_
          · simp (disch := omega) only [X_X8_copy_0, sp_isNumber_1 hS hr, b2_t c, ob, w1, n10, if_false, sp_isNumber_1 hS ht, b2_t c', wI_R hn, if_neg c0, sp_isThere_1 hS c, b2_f c1, wI_0, if_true, f_c1]
          · simp (disch := omega) only [X_X9_copy_53, XB_X9_copy_53_e, sp_isRow _ hr, b2_t c, ob, w1, n10, if_false, sp_isRow _ ht, b2_t c', wI_R hn, if_neg c0, wI_R hr, wI_R ht, q57, wI_of (x := M 2 r.toNat), if_pos c, if_pos (show M 2 r.toNat < 0 by omega), f_m1]
    · refine st_same I (v := -1) (w := -1) ?_ ?_ rfl
      · simp only [X_X8_copy_0, sp_isNumber_1 hS hr, b2_t c, ob, w1, n10, if_false, sp_isNumber_1 hS ht, b2_f c', wI_0, if_true]
      · simp only [X_X9_copy_53, XB_X9_copy_53_e, sp_isRow _ hr, b2_t c, ob, w1, n10, if_false, sp_isRow _ ht, b2_f c', wI_0, if_true]
  · refine st_same I (v := -1) (w := -1) ?_ ?_ rfl
    · simp only [X_X8_copy_0, sp_isNumber_1 hS hr, b2_f c, ob, wI_0, if_true]
    · simp only [X_X9_copy_53, XB_X9_copy_53_e, sp_isRow _ hr, b2_f c, ob, wI_0, if_true]
