/-! More of rows and texts: made anew, put, the mean, copies. -/
theorem lp_makeRow (k : am_M → am_Rs) : ∀ (d n : Nat) (M : am_M) (r i : Int), 0 ≤ r → r < 6 → 0 ≤ i → i ≤ 40 → (40 - i).toNat = d → d < n → XL_X9_makeRow_53_1 k n r i M = k (am_row M 58 fun j => if 40 * r + i ≤ (j : Int) ∧ (j : Int) < 40 * r + 40 then 0 else M 58 j)
  | 0, n + 1, M, r, i, hr, hr2, hi, hiz, hd, hn => by
    have e : ∀ j : Nat, ¬ (40 * r + i ≤ (j : Int) ∧ (j : Int) < 40 * r + 40) := fun j => by omega
    simp (disch := omega) only [XL_X9_makeRow_53_1, XB_X9_makeRow_53_1, wI_of, if_neg, e, if_false]
    rw [row_self]
  | d + 1, n + 1, M, r, i, hr, hr2, hi, hiz, hd, hn => by
    simp (disch := omega) only [XL_X9_makeRow_53_1, XB_X9_makeRow_53_1, wI_of, if_pos]
    rw [lp_makeRow k d n _ r (i + 1) hr hr2 (by omega) (by omega) (by omega) (by omega), up_row, row_row]
    congr 2
    funext j
    simp only [row_s]
    by_cases hj : j = (40 * r + i).toNat
    · rw [if_pos (show 40 * r + i ≤ (j : Int) ∧ (j : Int) < 40 * r + 40 by omega), if_neg (by omega), if_pos hj]
    · by_cases hj2 : 40 * r + (i + 1) ≤ (j : Int) ∧ (j : Int) < 40 * r + 40
      · rw [if_pos hj2, if_pos (by omega)]
      · rw [if_neg hj2, if_neg hj, if_neg (by omega)]
theorem sp_makeRow {M : am_M} {r n : Int} (hr : 0 ≤ r ∧ r < 6) : X_X9_makeRow_53 r n M = some (0, am_row (am_up M 57 r.toNat n) 58 fun j => if 40 * r ≤ (j : Int) ∧ (j : Int) < 40 * r + 40 then 0 else M 58 j) := by
  simp (disch := omega) only [X_X9_makeRow_53, XB_X9_makeRow_53_e, wI_of (x := r), if_pos]
  rw [lp_makeRow _ 40 1000 _ r 0 hr.1 hr.2 (by omega) (by omega) (by omega) (by omega)]
  simp only [XB_X9_makeRow_53_3, Int.add_zero, up_a (show 58 ≠ 57 by decide)]
/-- a row made anew on both sides -/
noncomputable def cMk (r n : Int) (M : am_M) : am_M := am_row (am_up M 2 r.toNat n) 3 fun j => if 40 * r ≤ (j : Int) ∧ (j : Int) < 40 * r + n then 0 else M 3 j
noncomputable def mMk (r n : Int) (M : am_M) : am_M := am_row (am_up M 57 r.toNat n) 58 fun j => if 40 * r ≤ (j : Int) ∧ (j : Int) < 40 * r + 40 then 0 else M 58 j
theorem inv_make {M : am_M} (I : Inv M) {r n : Int} (hr : 0 ≤ r ∧ r < 6) (hn : 0 ≤ n ∧ n ≤ 40) : Inv (mMk r n (cMk r n M)) := by
  obtain ⟨e57, h2, h3, h4⟩ := I.2.1
  refine inv_rows I (fun a q1 q2 q3 q4 => by unfold mMk cMk; rw [row_a q4, up_a q3, row_a q2, up_a q1]) ?_
  refine ⟨?_, fun j => ?_, fun j => ?_, fun q i hq hi => ?_⟩
  · show (fun j => if j = r.toNat then n else M 57 j) = (fun j => if j = r.toNat then n else M 2 j)
    rw [e57]
  · show -1 ≤ (if j = r.toNat then n else M 2 j) ∧ (if j = r.toNat then n else M 2 j) ≤ 40
    have := h2 j
    split <;> omega
  · show iR (if 40 * r ≤ (j : Int) ∧ (j : Int) < 40 * r + n then 0 else M 3 j)
    split
    · exact i0
    · exact h3 j
  · have hi' : (i : Int) < (if q = r.toNat then n else M 2 q) := hi
    show (if 40 * r ≤ ((40 * q + i : Nat) : Int) ∧ ((40 * q + i : Nat) : Int) < 40 * r + 40 then 0 else M 58 (40 * q + i)) = (if 40 * r ≤ ((40 * q + i : Nat) : Int) ∧ ((40 * q + i : Nat) : Int) < 40 * r + n then 0 else M 3 (40 * q + i))
    by_cases hqr : q = r.toNat
    · rw [if_pos hqr] at hi'
      rw [if_pos (by omega), if_pos (by omega)]
    · rw [if_neg hqr] at hi'
      have := h2 q
      rw [if_neg (by omega), if_neg (by omega), h4 q i hq hi']
theorem eq_row {M : am_M} (I : Inv M) {r n : Int} (hr : iR r) (hn : iR n) : Step (X_X8_row_0 r n) (X_X9_row_53 r n) M := by
  have hS := I.sh1
  by_cases c : 0 ≤ r ∧ r < 6
  · by_cases c1 : 40 < n
    · refine st_same I (v := -1) (w := -1) ?_ ?_ rfl
      · simp (disch := omega) only [X_X8_row_0, sp_isNumber_1 hS hr, b2_t c, ob, w1, n10, if_false, wI_R hn, if_pos]
      · simp (disch := omega) only [X_X9_row_53, sp_isRow _ hr, b2_t c, ob, w1, n10, if_false, wI_R hn, if_pos]
    · by_cases c2 : n < 0
      · refine st_find I (f := 5) ?_ ?_
        · simp (disch := omega) only [X_X8_row_0, sp_isNumber_1 hS hr, b2_t c, ob, w1, n10, if_false, wI_R hn, if_pos, if_neg, f_c5]
        · simp (disch := omega) only [X_X9_row_53, sp_isRow _ hr, b2_t c, ob, w1, n10, if_false, wI_R hn, if_pos, if_neg, f_m5]
      · refine ⟨n, n, cMk r n M, mMk r n (cMk r n M), ?_, ?_, rfl, inv_make I c (by omega)⟩
        · simp (disch := omega) only [X_X8_row_0, sp_isNumber_1 hS hr, b2_t c, ob, w1, n10, if_false, wI_R hn, if_neg, sp_make_1 hS c (show 0 ≤ n ∧ n ≤ 40 by omega)]
          rfl
        · simp (disch := omega) only [X_X9_row_53, sp_isRow _ hr, b2_t c, ob, w1, n10, if_false, wI_R hn, if_neg, sp_makeRow c]
          rfl
  · refine st_same I (v := -1) (w := -1) ?_ ?_ rfl
    · simp only [X_X8_row_0, sp_isNumber_1 hS hr, b2_f c, ob, wI_0, if_true]
    · simp only [X_X9_row_53, sp_isRow _ hr, b2_f c, ob, wI_0, if_true]
theorem inv_texts {M M' : am_M} (I : Inv M) (hc : ∀ a, a ≠ 5 → a ≠ 6 → a ≠ 59 → a ≠ 60 → M' a = M a) (hr : TxI (M' 5) (M' 6) (M' 59) (M' 60)) : Inv M' := by
  unfold Inv
  rw [hc 1 (by decide) (by decide) (by decide) (by decide), hc 4 (by decide) (by decide) (by decide) (by decide), hc 2 (by decide) (by decide) (by decide) (by decide), hc 3 (by decide) (by decide) (by decide) (by decide), hc 57 (by decide) (by decide) (by decide) (by decide), hc 58 (by decide) (by decide) (by decide) (by decide)]
  rw [hc 9 (by decide) (by decide) (by decide) (by decide), hc 10 (by decide) (by decide) (by decide) (by decide), hc 11 (by decide) (by decide) (by decide) (by decide), hc 12 (by decide) (by decide) (by decide) (by decide), hc 13 (by decide) (by decide) (by decide) (by decide), hc 53 (by decide) (by decide) (by decide) (by decide), hc 55 (by decide) (by decide) (by decide) (by decide), hc 56 (by decide) (by decide) (by decide) (by decide)]
  rw [hc 14 (by decide) (by decide) (by decide) (by decide), hc 15 (by decide) (by decide) (by decide) (by decide), hc 16 (by decide) (by decide) (by decide) (by decide), hc 17 (by decide) (by decide) (by decide) (by decide), hc 18 (by decide) (by decide) (by decide) (by decide), hc 54 (by decide) (by decide) (by decide) (by decide), hc 35 (by decide) (by decide) (by decide) (by decide)]
  rw [hc 20 (by decide) (by decide) (by decide) (by decide), hc 21 (by decide) (by decide) (by decide) (by decide), hc 22 (by decide) (by decide) (by decide) (by decide), hc 23 (by decide) (by decide) (by decide) (by decide), hc 24 (by decide) (by decide) (by decide) (by decide), hc 25 (by decide) (by decide) (by decide) (by decide), hc 26 (by decide) (by decide) (by decide) (by decide), hc 27 (by decide) (by decide) (by decide) (by decide), hc 28 (by decide) (by decide) (by decide) (by decide), hc 29 (by decide) (by decide) (by decide) (by decide)]
  rw [hc 30 (by decide) (by decide) (by decide) (by decide), hc 31 (by decide) (by decide) (by decide) (by decide), hc 32 (by decide) (by decide) (by decide) (by decide), hc 33 (by decide) (by decide) (by decide) (by decide), hc 34 (by decide) (by decide) (by decide) (by decide), hc 0 (by decide) (by decide) (by decide) (by decide), hc 52 (by decide) (by decide) (by decide) (by decide), hc 61 (by decide) (by decide) (by decide) (by decide)]
  exact ⟨I.1, I.2.1, hr, I.2.2.2⟩
theorem lp_text (k : Int → am_M → am_Rs) : ∀ (d n : Nat) (M : am_M) (r z i : Int), 0 ≤ r → r < 4 → 0 ≤ i → i ≤ 60 → (60 - i).toNat = d → d < n → XL_X9_text_53_6 k n r z i M = k z (am_row M 60 fun j => if 60 * r + i ≤ (j : Int) ∧ (j : Int) < 60 * r + 60 then 32 else M 60 j)
  | 0, n + 1, M, r, z, i, hr, hr2, hi, hiz, hd, hn => by
    have e : ∀ j : Nat, ¬ (60 * r + i ≤ (j : Int) ∧ (j : Int) < 60 * r + 60) := fun j => by omega
    simp (disch := omega) only [XL_X9_text_53_6, XB_X9_text_53_6, wI_of, if_neg, e, if_false]
    rw [row_self]
  | d + 1, n + 1, M, r, z, i, hr, hr2, hi, hiz, hd, hn => by
    simp (disch := omega) only [XL_X9_text_53_6, XB_X9_text_53_6, wI_of, if_pos]
    rw [lp_text k d n _ r z (i + 1) hr hr2 (by omega) (by omega) (by omega) (by omega), up_row, row_row]
    congr 2
    funext j
    simp only [row_s]
    by_cases hj : j = (60 * r + i).toNat
    · rw [if_pos (show 60 * r + i ≤ (j : Int) ∧ (j : Int) < 60 * r + 60 by omega), if_neg (by omega), if_pos hj]
    · by_cases hj2 : 60 * r + (i + 1) ≤ (j : Int) ∧ (j : Int) < 60 * r + 60
      · rw [if_pos hj2, if_pos (by omega)]
      · rw [if_neg hj2, if_neg hj, if_neg (by omega)]
theorem eq_text {M : am_M} (I : Inv M) {r n : Int} (hr : iR r) (hn : iR n) : Step (X_X8_text_0 r n) (X_X9_text_53 r n) M := by
  have hS := I.sh4
  obtain ⟨e59, h2, h3, h4⟩ := I.2.2.1
  by_cases c : 0 ≤ r ∧ r < 4
  · by_cases c1 : 60 < n
    · refine st_same I (v := -1) (w := -1) ?_ ?_ rfl
      · simp (disch := omega) only [X_X8_text_0, sp_isNumber_4 hS hr, b2_t c, ob, w1, n10, if_false, wI_R hn, if_pos]
      · simp (disch := omega) only [X_X9_text_53, XB_X9_text_53_e, sp_isText _ hr, b2_t c, ob, w1, n10, if_false, wI_R hn, if_pos]
    · by_cases c2 : n < 0
      · refine st_find I (f := 5) ?_ ?_
        · simp (disch := omega) only [X_X8_text_0, sp_isNumber_4 hS hr, b2_t c, ob, w1, n10, if_false, wI_R hn, if_pos, if_neg, f_c5]
        · simp (disch := omega) only [X_X9_text_53, XB_X9_text_53_e, sp_isText _ hr, b2_t c, ob, w1, n10, if_false, wI_R hn, if_pos, if_neg, f_m5]
      · refine ⟨n, n, am_row (am_up M 5 r.toNat n) 6 (fun j => if 60 * r ≤ (j : Int) ∧ (j : Int) < 60 * r + n then 32 else M 6 j), am_row (am_up (am_row (am_up M 5 r.toNat n) 6 (fun j => if 60 * r ≤ (j : Int) ∧ (j : Int) < 60 * r + n then 32 else M 6 j)) 59 r.toNat n) 60 (fun j => if 60 * r ≤ (j : Int) ∧ (j : Int) < 60 * r + 60 then 32 else M 60 j), ?_, ?_, rfl, ?_⟩
        · simp (disch := omega) only [X_X8_text_0, sp_isNumber_4 hS hr, b2_t c, ob, w1, n10, if_false, wI_R hn, if_neg, sp_make_4 hS c (show 0 ≤ n ∧ n ≤ 60 by omega)]
        · simp (disch := omega) only [X_X9_text_53, XB_X9_text_53_e, sp_isText _ hr, b2_t c, ob, w1, n10, if_false, wI_R hn, if_neg, wI_R hr, if_pos]
          rw [lp_text _ 60 1000 _ r n 0 c.1 c.2 (by omega) (by omega) (by omega) (by omega)]
          simp only [XB_X9_text_53_8, Int.add_zero]
          rfl
        · refine inv_texts I (fun a q1 q2 q3 q4 => by rw [row_a q4, up_a q3, row_a q2, up_a q1]) ?_
          refine ⟨?_, fun j => ?_, fun j => ?_, fun q i hq hi => ?_⟩
          · show (fun j => if j = r.toNat then n else M 59 j) = (fun j => if j = r.toNat then n else M 5 j)
            rw [e59]
          · show -1 ≤ (if j = r.toNat then n else M 5 j) ∧ (if j = r.toNat then n else M 5 j) ≤ 60
            have := h2 j
            split <;> omega
          · show -128 ≤ (if 60 * r ≤ (j : Int) ∧ (j : Int) < 60 * r + n then 32 else M 6 j) ∧ (if 60 * r ≤ (j : Int) ∧ (j : Int) < 60 * r + n then 32 else M 6 j) ≤ 127
            have := h3 j
            split <;> omega
          · have hi' : (i : Int) < (if q = r.toNat then n else M 5 q) := hi
            show (if 60 * r ≤ ((60 * q + i : Nat) : Int) ∧ ((60 * q + i : Nat) : Int) < 60 * r + 60 then 32 else M 60 (60 * q + i)) = (if 60 * r ≤ ((60 * q + i : Nat) : Int) ∧ ((60 * q + i : Nat) : Int) < 60 * r + n then 32 else M 6 (60 * q + i))
            by_cases hqr : q = r.toNat
            · rw [if_pos hqr] at hi'
              rw [if_pos (by omega), if_pos (by omega)]
            · rw [if_neg hqr] at hi'
              have := h2 q
              rw [if_neg (by omega), if_neg (by omega), h4 q i hq hi']
  · refine st_same I (v := -1) (w := -1) ?_ ?_ rfl
    · simp only [X_X8_text_0, sp_isNumber_4 hS hr, b2_f c, ob, wI_0, if_true]
    · simp only [X_X9_text_53, XB_X9_text_53_e, sp_isText _ hr, b2_f c, ob, wI_0, if_true]
theorem wB_r (x : Int) : -128 ≤ wB x ∧ wB x ≤ 127 := by unfold wB; omega
theorem eq_put {M : am_M} (I : Inv M) {r i v : Int} (hr : iR r) (hi : iR i) : Step (X_X8_put_0 r i v) (X_X9_put_53 r i v) M := by
  have hS := I.sh4
  obtain ⟨e59, h2, h3, h4⟩ := I.2.2.1
  by_cases c : 0 ≤ r ∧ r < 4
  · have h1 := h2 r.toNat
    by_cases c1 : M 5 r.toNat < 0
    · refine st_find I (f := 1) ?_ ?_
      · simp (disch := omega) only [X_X8_put_0, sp_isNumber_4 hS hr, b2_t c, ob, w1, n10, if_false, sp_lacking_4 hS c hi, if_pos c1, f_c1]
      · have q59 : (cF 1 M) 59 r.toNat = M 5 r.toNat := by show M 59 r.toNat = _; rw [e59]
        simp (disch := omega) only [X_X9_put_53, sp_isText _ hr, b2_t c, ob, w1, n10, if_false, wI_R hr, q59, wI_of (x := M 5 r.toNat), if_pos, f_m1]
    · by_cases c2 : 0 ≤ i ∧ i < M 5 r.toNat
      · have e60 := tn60 c.1 c2.1
        have e6 : M 60 (60 * r + i).toNat = M 6 (60 * r + i).toNat := by rw [e60]; exact h4 r.toNat i.toNat (by omega) (by omega)
        refine ⟨M 6 (60 * r + i).toNat + 1000, M 60 (60 * r + i).toNat + 1000, am_up M 6 (60 * r + i).toNat (wB v), am_up (am_up M 6 (60 * r + i).toNat (wB v)) 60 (60 * r + i).toNat (wB v), ?_, ?_, by rw [e6], ?_⟩
        · simp (disch := omega) only [X_X8_put_0, sp_isNumber_4 hS hr, b2_t c, ob, w1, n10, if_false, sp_lacking_4 hS c hi, if_neg c1, if_pos c2, wI_0, if_true, sp_get_4 hS c hi, sp_set_4 hS c c2]
        · have q59 : (am_up M 6 (60 * r + i).toNat (wB v)) 59 r.toNat = M 5 r.toNat := by show M 59 r.toNat = _; rw [e59]
          simp (disch := omega) only [X_X9_put_53, sp_isText _ hr, b2_t c, ob, w1, n10, if_false, wI_R hr, q59, wI_of (x := M 5 r.toNat), wI_of (x := M 5 r.toNat - 1), wI_R hi, sp_in _ hi i0 (show iR (M 5 r.toNat - 1) by unfold iR; omega), b2_t (show 0 ≤ i ∧ i ≤ M 5 r.toNat - 1 by omega), wI_of (x := 60 * r + i), if_pos, if_neg]
          rfl
        · refine inv_texts I (fun a q1 q2 q3 q4 => by rw [up_a q4, up_a q2]) ⟨e59, h2, fun j => ?_, fun q i2 hq hi2 => ?_⟩
          · show -128 ≤ (if j = (60 * r + i).toNat then wB v else M 6 j) ∧ (if j = (60 * r + i).toNat then wB v else M 6 j) ≤ 127
            split
            · exact wB_r v
            · exact h3 j
          · show (if 60 * q + i2 = (60 * r + i).toNat then wB v else M 60 (60 * q + i2)) = (if 60 * q + i2 = (60 * r + i).toNat then wB v else M 6 (60 * q + i2))
            rw [h4 q i2 hq hi2]
      · refine st_find I (f := 2) ?_ ?_
        · simp (disch := omega) only [X_X8_put_0, sp_isNumber_4 hS hr, b2_t c, ob, w1, n10, if_false, sp_lacking_4 hS c hi, if_neg c1, if_neg c2, wI_2, n20, f_c2]
        · have q59 : (cF 2 M) 59 r.toNat = M 5 r.toNat := by show M 59 r.toNat = _; rw [e59]
          simp (disch := omega) only [X_X9_put_53, sp_isText _ hr, b2_t c, ob, w1, n10, if_false, wI_R hr, q59, wI_of (x := M 5 r.toNat), wI_of (x := M 5 r.toNat - 1), wI_R hi, sp_in _ hi i0 (show iR (M 5 r.toNat - 1) by unfold iR; omega), b2_f (show ¬ (0 ≤ i ∧ i ≤ M 5 r.toNat - 1) by omega), wI_0, if_true, if_pos, if_neg, f_m2]
  · refine st_same I (v := -1) (w := -1) ?_ ?_ rfl
    · simp only [X_X8_put_0, sp_isNumber_4 hS hr, b2_f c, ob, wI_0, if_true]
    · simp only [X_X9_put_53, sp_isText _ hr, b2_f c, ob, wI_0, if_true]
