/-! Rows and texts. -/
theorem f_c1 (M : am_M) : X_X8_find_0 1 M = some (-3, cF 1 M) := sp_find_0 (f := 1) (by decide) M
theorem f_m1 (M : am_M) : X_X9_find_53 1 M = some (-3, mF 1 M) := sp_find_53 (f := 1) (by decide) M
theorem f_c2 (M : am_M) : X_X8_find_0 2 M = some (-3, cF 2 M) := sp_find_0 (f := 2) (by decide) M
theorem f_m2 (M : am_M) : X_X9_find_53 2 M = some (-3, mF 2 M) := sp_find_53 (f := 2) (by decide) M
theorem f_c3 (M : am_M) : X_X8_find_0 3 M = some (-3, cF 3 M) := sp_find_0 (f := 3) (by decide) M
theorem f_m3 (M : am_M) : X_X9_find_53 3 M = some (-3, mF 3 M) := sp_find_53 (f := 3) (by decide) M
theorem f_c4 (M : am_M) : X_X8_find_0 4 M = some (-3, cF 4 M) := sp_find_0 (f := 4) (by decide) M
theorem f_m4 (M : am_M) : X_X9_find_53 4 M = some (-3, mF 4 M) := sp_find_53 (f := 4) (by decide) M
theorem f_c5 (M : am_M) : X_X8_find_0 5 M = some (-3, cF 5 M) := sp_find_0 (f := 5) (by decide) M
theorem f_m5 (M : am_M) : X_X9_find_53 5 M = some (-3, mF 5 M) := sp_find_53 (f := 5) (by decide) M
theorem m3 : wI (-3) = -3 := rfl
theorem wI_2 : wI 2 = 2 := rfl
theorem n20 : ((2 : Int) = 0) = False := by simp
theorem nm10 : ((-1 : Int) = 0) = False := by simp
theorem nm30 : ((-3 : Int) = 0) = False := by simp
theorem i0 : iR 0 := by unfold iR; omega
theorem tn {a b : Int} {c : Nat} (ha : 0 ≤ a) (hb : 0 ≤ b) : ((c : Int) * a + b).toNat = c * a.toNat + b.toNat := by
  obtain ⟨x, rfl⟩ := Int.eq_ofNat_of_zero_le ha
  obtain ⟨y, rfl⟩ := Int.eq_ofNat_of_zero_le hb
  simp only [Int.toNat_natCast]
  omega
theorem tn40 {a b : Int} (ha : 0 ≤ a) (hb : 0 ≤ b) : (40 * a + b).toNat = 40 * a.toNat + b.toNat := by omega
theorem tn60 {a b : Int} (ha : 0 ≤ a) (hb : 0 ≤ b) : (60 * a + b).toNat = 60 * a.toNat + b.toNat := by omega
theorem sp_lacking_1 {M : am_M} (h : Sh1 M) {r i : Int} (hr : 0 ≤ r ∧ r < 6) (hi : iR i) : X_X8_lackingPlace_1 r i M = some (if M 2 r.toNat < 0 then 1 else if 0 ≤ i ∧ i < M 2 r.toNat then 0 else 2, M) := by
  by_cases c1 : 0 ≤ M 2 r.toNat
  · by_cases c2 : 0 ≤ i ∧ i < M 2 r.toNat
    · simp (disch := omega) only [X_X8_lackingPlace_1, sp_isThere_1 h hr, b2_t c1, ob, w1, n10, if_false, sp_hasPlace_1 h hr hi, b2_t c2, if_neg, if_pos]
    · simp (disch := omega) only [X_X8_lackingPlace_1, sp_isThere_1 h hr, b2_t c1, ob, w1, n10, if_false, sp_hasPlace_1 h hr hi, b2_f c2, wI_0, if_true, if_neg]
  · simp (disch := omega) only [X_X8_lackingPlace_1, sp_isThere_1 h hr, b2_f c1, ob, wI_0, if_true, if_pos]
theorem sp_lacking_4 {M : am_M} (h : Sh4 M) {r i : Int} (hr : 0 ≤ r ∧ r < 4) (hi : iR i) : X_X8_lackingPlace_4 r i M = some (if M 5 r.toNat < 0 then 1 else if 0 ≤ i ∧ i < M 5 r.toNat then 0 else 2, M) := by
  by_cases c1 : 0 ≤ M 5 r.toNat
  · by_cases c2 : 0 ≤ i ∧ i < M 5 r.toNat
    · simp (disch := omega) only [X_X8_lackingPlace_4, sp_isThere_4 h hr, b2_t c1, ob, w1, n10, if_false, sp_hasPlace_4 h hr hi, b2_t c2, if_neg, if_pos]
    · simp (disch := omega) only [X_X8_lackingPlace_4, sp_isThere_4 h hr, b2_t c1, ob, w1, n10, if_false, sp_hasPlace_4 h hr hi, b2_f c2, wI_0, if_true, if_neg]
  · simp (disch := omega) only [X_X8_lackingPlace_4, sp_isThere_4 h hr, b2_f c1, ob, wI_0, if_true, if_pos]
theorem sp_refused {M : am_M} (hs : ∀ r, -1 ≤ M 57 r ∧ M 57 r ≤ 40) {r i : Int} (hr : 0 ≤ r ∧ r < 6) (hi : iR i) : X_X9_refused_53 r i M = if M 57 r.toNat < 0 then some (-3, mF 1 M) else if 0 ≤ i ∧ i < M 57 r.toNat then some (0, M) else some (-3, mF 2 M) := by
  have h1 := hs r.toNat
  have hrR : iR r := by unfold iR; omega
  by_cases c1 : M 57 r.toNat < 0
  · simp (disch := omega) only [X_X9_refused_53, sp_isRow M hrR, b2_t hr, ob, w1, n10, if_false, wI_R hrR, wI_of (x := M 57 r.toNat), if_pos, f_m1]
  · by_cases c2 : 0 ≤ i ∧ i < M 57 r.toNat
    · simp (disch := omega) only [X_X9_refused_53, sp_isRow M hrR, b2_t hr, ob, w1, n10, if_false, wI_R hrR, wI_of (x := M 57 r.toNat), wI_of (x := M 57 r.toNat - 1), wI_R hi, sp_in M hi i0 (show iR (M 57 r.toNat - 1) by unfold iR; omega), b2_t (show 0 ≤ i ∧ i ≤ M 57 r.toNat - 1 by omega), if_pos, if_neg]
    · simp (disch := omega) only [X_X9_refused_53, sp_isRow M hrR, b2_t hr, ob, w1, n10, if_false, wI_R hrR, wI_of (x := M 57 r.toNat), wI_of (x := M 57 r.toNat - 1), wI_R hi, sp_in M hi i0 (show iR (M 57 r.toNat - 1) by unfold iR; omega), b2_f (show ¬ (0 ≤ i ∧ i ≤ M 57 r.toNat - 1) by omega), wI_0, if_true, if_pos, if_neg, f_m2]
theorem inv_rows {M M' : am_M} (I : Inv M) (hc : ∀ a, a ≠ 2 → a ≠ 3 → a ≠ 57 → a ≠ 58 → M' a = M a) (hr : RwI (M' 2) (M' 3) (M' 57) (M' 58)) : Inv M' := by
  unfold Inv
  rw [hc 1 (by decide) (by decide) (by decide) (by decide), hc 4 (by decide) (by decide) (by decide) (by decide), hc 5 (by decide) (by decide) (by decide) (by decide), hc 6 (by decide) (by decide) (by decide) (by decide), hc 59 (by decide) (by decide) (by decide) (by decide), hc 60 (by decide) (by decide) (by decide) (by decide)]
  rw [hc 9 (by decide) (by decide) (by decide) (by decide), hc 10 (by decide) (by decide) (by decide) (by decide), hc 11 (by decide) (by decide) (by decide) (by decide), hc 12 (by decide) (by decide) (by decide) (by decide), hc 13 (by decide) (by decide) (by decide) (by decide), hc 53 (by decide) (by decide) (by decide) (by decide), hc 55 (by decide) (by decide) (by decide) (by decide), hc 56 (by decide) (by decide) (by decide) (by decide)]
  rw [hc 14 (by decide) (by decide) (by decide) (by decide), hc 15 (by decide) (by decide) (by decide) (by decide), hc 16 (by decide) (by decide) (by decide) (by decide), hc 17 (by decide) (by decide) (by decide) (by decide), hc 18 (by decide) (by decide) (by decide) (by decide), hc 54 (by decide) (by decide) (by decide) (by decide), hc 35 (by decide) (by decide) (by decide) (by decide)]
  rw [hc 20 (by decide) (by decide) (by decide) (by decide), hc 21 (by decide) (by decide) (by decide) (by decide), hc 22 (by decide) (by decide) (by decide) (by decide), hc 23 (by decide) (by decide) (by decide) (by decide), hc 24 (by decide) (by decide) (by decide) (by decide), hc 25 (by decide) (by decide) (by decide) (by decide), hc 26 (by decide) (by decide) (by decide) (by decide), hc 27 (by decide) (by decide) (by decide) (by decide), hc 28 (by decide) (by decide) (by decide) (by decide), hc 29 (by decide) (by decide) (by decide) (by decide)]
  rw [hc 30 (by decide) (by decide) (by decide) (by decide), hc 31 (by decide) (by decide) (by decide) (by decide), hc 32 (by decide) (by decide) (by decide) (by decide), hc 33 (by decide) (by decide) (by decide) (by decide), hc 34 (by decide) (by decide) (by decide) (by decide), hc 0 (by decide) (by decide) (by decide) (by decide), hc 52 (by decide) (by decide) (by decide) (by decide), hc 61 (by decide) (by decide) (by decide) (by decide)]
  exact ⟨I.1, hr, I.2.2⟩
theorem eq_tear {M : am_M} (I : Inv M) {r : Int} (hr : iR r) : Step (X_X8_tear_0 r) (X_X9_tear_53 r) M := by
  have hS := I.sh1
  obtain ⟨e57, h2, h3, h4⟩ := I.2.1
  by_cases c : 0 ≤ r ∧ r < 6
  · have h1 := h2 r.toNat
    by_cases c1 : 0 ≤ M 2 r.toNat
    · refine ⟨1, 1, am_up M 2 r.toNat (-1), am_up (am_up M 2 r.toNat (-1)) 57 r.toNat (-1), ?_, ?_, rfl, ?_⟩
      · simp (disch := omega) only [X_X8_tear_0, sp_isNumber_1 hS hr, b2_t c, ob, w1, n10, if_false, sp_isThere_1 hS c, b2_t c1, X_X6_remove_1, wI_R hr, if_pos]
      · simp (disch := omega) only [X_X9_tear_53, sp_isRow _ hr, b2_t c, ob, w1, n10, if_false, wI_R hr, up_a (show 57 ≠ 2 by decide), e57, wI_of (x := M 2 r.toNat), if_neg, if_pos]
      · refine inv_rows I (fun a q1 q2 q3 q4 => by rw [up_a q3, up_a q1]) ?_
        refine ⟨?_, fun j => ?_, h3, fun q i hq hi => ?_⟩
        · show (fun j => if j = r.toNat then (-1 : Int) else M 57 j) = (fun j => if j = r.toNat then (-1 : Int) else M 2 j)
          rw [e57]
        · show -1 ≤ (if j = r.toNat then (-1 : Int) else M 2 j) ∧ (if j = r.toNat then (-1 : Int) else M 2 j) ≤ 40
          have := h2 j
          split <;> omega
        · have hi' : (i : Int) < (if q = r.toNat then (-1 : Int) else M 2 q) := hi
          split at hi'
          · omega
          · exact h4 q i hq hi'
    · refine st_find I (f := 1) ?_ ?_
      · simp (disch := omega) only [X_X8_tear_0, sp_isNumber_1 hS hr, b2_t c, ob, w1, n10, if_false, sp_isThere_1 hS c, b2_f c1, wI_0, if_true, f_c1]
      · simp (disch := omega) only [X_X9_tear_53, sp_isRow _ hr, b2_t c, ob, w1, n10, if_false, wI_R hr, cF, up_a (show 57 ≠ 52 by decide), up_a (show 57 ≠ 0 by decide), e57, wI_of (x := M 2 r.toNat), if_pos, f_m1]
  · refine st_same I (v := -1) (w := -1) ?_ ?_ rfl
    · simp only [X_X8_tear_0, sp_isNumber_1 hS hr, b2_f c, ob, wI_0, if_true]
    · simp only [X_X9_tear_53, sp_isRow _ hr, b2_f c, ob, wI_0, if_true]
theorem rw_up {a2 a3 a57 a58 : Nat → Int} (h : RwI a2 a3 a57 a58) (j : Nat) {v : Int} (hv : iR v) : RwI a2 (fun i => if i = j then v else a3 i) a57 (fun i => if i = j then v else a58 i) := by
  obtain ⟨e, h2, h3, h4⟩ := h
  refine ⟨e, h2, fun i => ?_, fun r i hr hi => ?_⟩
  · show iR (if i = j then v else a3 i)
    split
    · exact hv
    · exact h3 i
  · show (if 40 * r + i = j then v else a58 (40 * r + i)) = (if 40 * r + i = j then v else a3 (40 * r + i))
    rw [h4 r i hr hi]
theorem eq_at {M : am_M} (I : Inv M) {r i : Int} (hr : iR r) (hi : iR i) : Step (X_X8_at_0 r i) (X_X9_at_53 r i) M := by
  have hS := I.sh1
  obtain ⟨e57, h2, h3, h4⟩ := I.2.1
  by_cases c : 0 ≤ r ∧ r < 6
  · have h1 := h2 r.toNat
    by_cases c1 : M 2 r.toNat < 0
    · refine st_find I (f := 1) ?_ ?_
      · simp (disch := omega) only [X_X8_at_0, sp_isNumber_1 hS hr, b2_t c, ob, w1, n10, if_false, sp_lacking_1 hS c hi, if_pos c1, f_c1]
      · have hs : ∀ q, -1 ≤ (cF 1 M) 57 q ∧ (cF 1 M) 57 q ≤ 40 := fun q => by show -1 ≤ M 57 q ∧ M 57 q ≤ 40; rw [e57]; exact h2 q
        rw [X_X9_at_53, sp_refused hs c hi, if_pos (show (cF 1 M) 57 r.toNat < 0 by show M 57 r.toNat < 0; rw [e57]; exact c1), ob]
        simp only [m3, nm30, if_false]
    · by_cases c2 : 0 ≤ i ∧ i < M 2 r.toNat
      · have e40 := tn40 c.1 c2.1
        refine st_tell I (v := M 3 (40 * r + i).toNat) (w := M 58 (40 * r + i).toNat) (by rw [e40]; exact (h4 r.toNat i.toNat (by omega) (by omega)).symm) ?_ ?_
        · simp (disch := omega) only [X_X8_at_0, sp_isNumber_1 hS hr, b2_t c, ob, w1, n10, if_false, sp_lacking_1 hS c hi, if_neg c1, if_pos c2, wI_0, if_true, sp_get_1 hS c hi, sp_tell_0]
        · have hs : ∀ q, -1 ≤ (cT (M 3 (40 * r + i).toNat) M) 57 q ∧ (cT (M 3 (40 * r + i).toNat) M) 57 q ≤ 40 := fun q => by show -1 ≤ M 57 q ∧ M 57 q ≤ 40; rw [e57]; exact h2 q
          have q57 : (cT (M 3 (40 * r + i).toNat) M) 57 r.toNat = M 2 r.toNat := by show M 57 r.toNat = _; rw [e57]
          rw [X_X9_at_53, sp_refused hs c hi, q57, if_neg c1, if_pos c2, ob]
          simp (disch := omega) only [wI_0, if_true, wI_of, if_pos, sp_tell_53, ob]
          rfl
      · refine st_find I (f := 2) ?_ ?_
        · simp (disch := omega) only [X_X8_at_0, sp_isNumber_1 hS hr, b2_t c, ob, w1, n10, if_false, sp_lacking_1 hS c hi, if_neg c1, if_neg c2, wI_2, n20, f_c2]
        · have hs : ∀ q, -1 ≤ (cF 2 M) 57 q ∧ (cF 2 M) 57 q ≤ 40 := fun q => by show -1 ≤ M 57 q ∧ M 57 q ≤ 40; rw [e57]; exact h2 q
          have q57 : (cF 2 M) 57 r.toNat = M 2 r.toNat := by show M 57 r.toNat = _; rw [e57]
          rw [X_X9_at_53, sp_refused hs c hi, q57, if_neg c1, if_neg c2, ob]
          simp only [m3, nm30, if_false]
  · refine st_same I (v := -1) (w := -1) ?_ ?_ rfl
    · simp only [X_X8_at_0, sp_isNumber_1 hS hr, b2_f c, ob, wI_0, if_true]
    · simp only [X_X9_at_53, X_X9_refused_53, sp_isRow _ hr, b2_f c, ob, wI_0, if_true, wm1, nm10, if_false]
theorem eq_lay {M : am_M} (I : Inv M) {r i v : Int} (hr : iR r) (hi : iR i) (hv : iR v) : Step (X_X8_lay_0 r i v) (X_X9_lay_53 r i v) M := by
  have hS := I.sh1
  obtain ⟨e57, h2, h3, h4⟩ := I.2.1
  by_cases c : 0 ≤ r ∧ r < 6
  · have h1 := h2 r.toNat
    by_cases c1 : M 2 r.toNat < 0
    · refine st_find I (f := 1) ?_ ?_
      · simp (disch := omega) only [X_X8_lay_0, sp_isNumber_1 hS hr, b2_t c, ob, w1, n10, if_false, sp_lacking_1 hS c hi, if_pos c1, f_c1]
      · have hs : ∀ q, -1 ≤ (cF 1 M) 57 q ∧ (cF 1 M) 57 q ≤ 40 := fun q => by show -1 ≤ M 57 q ∧ M 57 q ≤ 40; rw [e57]; exact h2 q
        rw [X_X9_lay_53, sp_refused hs c hi, if_pos (show (cF 1 M) 57 r.toNat < 0 by show M 57 r.toNat < 0; rw [e57]; exact c1), ob]
        simp only [m3, nm30, if_false]
    · by_cases c2 : 0 ≤ i ∧ i < M 2 r.toNat
      · have e40 := tn40 c.1 c2.1
        have e58 : M 58 (40 * r + i).toNat = M 3 (40 * r + i).toNat := by rw [e40]; exact h4 r.toNat i.toNat (by omega) (by omega)
        refine ⟨1, 1, cT (M 3 (40 * r + i).toNat) (am_up M 3 (40 * r + i).toNat v), mT (M 58 (40 * r + i).toNat) (am_up (cT (M 3 (40 * r + i).toNat) (am_up M 3 (40 * r + i).toNat v)) 58 (40 * r + i).toNat v), ?_, ?_, rfl, ?_⟩
        · simp (disch := omega) only [X_X8_lay_0, sp_isNumber_1 hS hr, b2_t c, ob, w1, n10, if_false, sp_lacking_1 hS c hi, if_neg c1, if_pos c2, wI_0, if_true, sp_get_1 hS c hi, sp_set_1 hS c c2, sp_tell_0]
        · have hs : ∀ q, -1 ≤ (cT (M 3 (40 * r + i).toNat) (am_up M 3 (40 * r + i).toNat v)) 57 q ∧ (cT (M 3 (40 * r + i).toNat) (am_up M 3 (40 * r + i).toNat v)) 57 q ≤ 40 := fun q => by show -1 ≤ M 57 q ∧ M 57 q ≤ 40; rw [e57]; exact h2 q
          have q57 : (cT (M 3 (40 * r + i).toNat) (am_up M 3 (40 * r + i).toNat v)) 57 r.toNat = M 2 r.toNat := by show M 57 r.toNat = _; rw [e57]
          rw [X_X9_lay_53, sp_refused hs c hi, q57, if_neg c1, if_pos c2, ob]
          simp (disch := omega) only [wI_0, if_true, wI_of, if_pos, sp_tell_53, ob]
          rfl
        · rw [e58]
          have J : Inv (am_up (am_up M 3 (40 * r + i).toNat v) 58 (40 * r + i).toNat v) := inv_rows I (fun a q1 q2 q3 q4 => by rw [up_a q4, up_a q2]) (rw_up I.2.1 (40 * r + i).toNat hv)
          obtain ⟨j1, j2, j3, j4, j5, j6, t1, t2, t3, t4, t5⟩ := J
          exact ⟨j1, j2, j3, j4, j5, j6, t1, rfl, t3, t4, t5⟩
      · refine st_find I (f := 2) ?_ ?_
        · simp (disch := omega) only [X_X8_lay_0, sp_isNumber_1 hS hr, b2_t c, ob, w1, n10, if_false, sp_lacking_1 hS c hi, if_neg c1, if_neg c2, wI_2, n20, f_c2]
        · have hs : ∀ q, -1 ≤ (cF 2 M) 57 q ∧ (cF 2 M) 57 q ≤ 40 := fun q => by show -1 ≤ M 57 q ∧ M 57 q ≤ 40; rw [e57]; exact h2 q
          have q57 : (cF 2 M) 57 r.toNat = M 2 r.toNat := by show M 57 r.toNat = _; rw [e57]
          rw [X_X9_lay_53, sp_refused hs c hi, q57, if_neg c1, if_neg c2, ob]
          simp only [m3, nm30, if_false]
  · refine st_same I (v := -1) (w := -1) ?_ ?_ rfl
    · simp only [X_X8_lay_0, sp_isNumber_1 hS hr, b2_f c, ob, wI_0, if_true]
    · simp only [X_X9_lay_53, X_X9_refused_53, sp_isRow _ hr, b2_f c, ob, wI_0, if_true, wm1, nm10, if_false]
