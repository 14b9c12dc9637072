/-! Refusals: what every call answers alike before its own work begins. -/
theorem sp_isPlace_11 {M : am_M} (h : Gd11 M) {p : Int} (hp : iR p) : X_X2_isPlace_11 p M = some (b2 (0 ≤ p ∧ p ≤ M 11 0), M) := by
  have h1 := h.1
  have h2 := h.2.1
  simp only [X_X2_isPlace_11, wI_R hp, wI_of (x := M 11 0) (by omega) (by omega)]
  split
  · rw [b2_f (by omega)]
  · split
    · rw [b2_f (by omega)]
    · rw [b2_t (by omega)]
theorem sp_isPlan {n : Int} (M : am_M) (hn : iR n) : X_X8_isPlanLength n M = some (b2 (0 ≤ n ∧ n ≤ 20), M) := by
  simp only [X_X8_isPlanLength, wI_R hn]
  split
  · rw [b2_f (by omega)]
  · split
    · rw [b2_f (by omega)]
    · rw [b2_t (by omega)]
theorem sp_isChance {n : Int} (M : am_M) (hn : iR n) : X_X8_isChanceLength n M = some (b2 (0 ≤ n ∧ n ≤ 6), M) := by
  simp only [X_X8_isChanceLength, wI_R hn]
  split
  · rw [b2_f (by omega)]
  · split
    · rw [b2_f (by omega)]
    · rw [b2_t (by omega)]
theorem sp_isGame_c {n v : Int} (M : am_M) (hn : iR n) (hv : iR v) : X_X8_isGame n v M = some (b2 ((0 ≤ n ∧ n ≤ 4) ∧ 0 ≤ v ∧ v ≤ 9), M) := by
  simp only [X_X8_isGame, wI_R hn, wI_R hv]
  repeat' split
  all_goals first | rw [b2_f (by omega)] | rw [b2_t (by omega)]
theorem sp_isGame_m {n v l : Int} (M : am_M) (hn : iR n) (hv : iR v) (hl : iR l) : X_X9_isGame n v l M = some (b2 ((l ≤ n ∧ n ≤ 4) ∧ 0 ≤ v ∧ v ≤ 9), M) := by
  have i4 : iR 4 := by unfold iR; omega
  have i9 : iR 9 := by unfold iR; omega
  simp only [X_X9_isGame, wI_R hn, wI_R hv, wI_R hl, sp_in M hn hl i4, sp_in M hv i0 i9, ob, b2_w, b2_0]
  by_cases c1 : l ≤ n ∧ n ≤ 4
  · by_cases c2 : 0 ≤ v ∧ v ≤ 9
    · simp only [c1, c2, not_true_eq_false, if_false, and_self]; rfl
    · simp only [c1, c2, not_false_eq_true, not_true_eq_false, if_true, if_false, and_false]; rfl
  · simp only [c1, not_false_eq_true, if_true, false_and]; rfl
theorem i1 : iR 1 := by unfold iR; omega
theorem i2 : iR 2 := by unfold iR; omega
theorem i5 : iR 5 := by unfold iR; omega
theorem i6 : iR 6 := by unfold iR; omega
theorem i9 : iR 9 := by unfold iR; omega
theorem i20 : iR 20 := by unfold iR; omega
theorem iS : iR 2147483646 := by unfold iR; omega
theorem lc_seed {s : Int} (h : iR s) : (wI (c_lcmp s 2147483647) < 0) = (s < 2147483647) := by
  rw [lc_lt, wL_R h, show wL 2147483647 = 2147483647 from rfl]
theorem gd_mark {M : am_M} (I : Inv M) {i k : Int} (hi : iR i) (hk : iR k) (deep : (0 ≤ i ∧ i < M 11 0) → (1 ≤ k ∧ k ≤ 5) → Step (X_X8_mark_0 i k) (X_X9_mark_53 i k) M) : Step (X_X8_mark_0 i k) (X_X9_mark_53 i k) M := by
  have hG := I.g11
  have hs : 0 ≤ M 53 1 ∧ M 53 1 ≤ 12 := ⟨I.gM.1, I.gM.2.1⟩
  have es := I.2.2.2.1.1
  by_cases c0 : 0 ≤ i ∧ i < M 11 0
  · have q0 := c0
    by_cases c1 : 1 ≤ k ∧ k ≤ 5
    · have q1 := c1
      exact deep c0 c1
    · refine st_same I (v := -1) (w := -1) ?_ ?_ rfl
      · rcases (show k < 1 ∨ 5 < k by omega) with q | q <;> simp (disch := omega) only [X_X8_mark_0, sp_has_11 hG hi, b2_t c0, wI_R hk, ob, w1, n10, if_false, wI_0, if_true, if_neg, if_pos]
      · simp only [X_X9_mark_53, sp_isStrip hs hi, es, b2_t c0, wI_R hk, sp_in _ hk i1 i5, b2_f c1, ob, w1, n10, if_false, wI_0, if_true]
  · refine st_same I (v := -1) (w := -1) ?_ ?_ rfl
    · simp (disch := omega) only [X_X8_mark_0, sp_has_11 hG hi, b2_f c0, ob, w1, n10, if_false, wI_0, if_true, if_neg, if_pos]
    · simp only [X_X9_mark_53, sp_isStrip hs hi, es, b2_f c0, ob, w1, n10, if_false, wI_0, if_true]
theorem gd_day {M : am_M} (I : Inv M) {a b : Int} (ha : iR a) (hb : iR b) (deep : (0 ≤ a ∧ a ≤ 3) → (0 ≤ b ∧ b ≤ 3) → (M 11 0 ≠ 0) → Step (X_X8_day_0 a b) (X_X9_day_53 a b) M) : Step (X_X8_day_0 a b) (X_X9_day_53 a b) M := by
  have hG := I.g11
  have hs : 0 ≤ M 53 1 ∧ M 53 1 ≤ 12 := ⟨I.gM.1, I.gM.2.1⟩
  have es := I.2.2.2.1.1
  by_cases c0 : 0 ≤ a ∧ a ≤ 3
  · have q0 := c0
    by_cases c1 : 0 ≤ b ∧ b ≤ 3
    · have q1 := c1
      by_cases c2 : M 11 0 ≠ 0
      · have q2 := c2
        exact deep c0 c1 c2
      · have z : M 11 0 = 0 := Classical.not_not.mp c2
        refine st_same I (v := -4) (w := -4) ?_ ?_ rfl
        · simp (disch := omega) only [X_X8_day_0, wI_R ha, wI_R hb, sp_hasNoLand hG, b2_t z, ob, w1, n10, if_false, wI_0, if_true, if_neg, if_pos]
        · simp only [X_X9_day_53, sp_isSaid _ ha, b2_t c0, sp_isSaid _ hb, b2_t c1, es, wI_of (x := M 11 0) (by have := hG.1; omega) (by have := hG.2.1; omega), if_pos z, ob, w1, n10, if_false, wI_0, if_true]
    · refine st_same I (v := -1) (w := -1) ?_ ?_ rfl
      · rcases (show b < 0 ∨ 3 < b by omega) with q | q <;> simp (disch := omega) only [X_X8_day_0, wI_R ha, wI_R hb, ob, w1, n10, if_false, wI_0, if_true, if_neg, if_pos]
      · simp only [X_X9_day_53, sp_isSaid _ ha, b2_t c0, sp_isSaid _ hb, b2_f c1, ob, w1, n10, if_false, wI_0, if_true]
  · refine st_same I (v := -1) (w := -1) ?_ ?_ rfl
    · rcases (show a < 0 ∨ 3 < a by omega) with q | q <;> simp (disch := omega) only [X_X8_day_0, wI_R ha, ob, w1, n10, if_false, wI_0, if_true, if_neg, if_pos]
    · simp only [X_X9_day_53, sp_isSaid _ ha, b2_f c0, ob, w1, n10, if_false, wI_0, if_true]
theorem gd_keep {M : am_M} (I : Inv M) {k : Int} (hk : iR k) (deep : (0 ≤ k ∧ k ≤ 2) → (M 11 0 ≠ 0) → Step (X_X8_keep_0 k) (X_X9_keep_53 k) M) : Step (X_X8_keep_0 k) (X_X9_keep_53 k) M := by
  have hG := I.g11
  have hs : 0 ≤ M 53 1 ∧ M 53 1 ≤ 12 := ⟨I.gM.1, I.gM.2.1⟩
  have es := I.2.2.2.1.1
  by_cases c0 : 0 ≤ k ∧ k ≤ 2
  · have q0 := c0
    by_cases c1 : M 11 0 ≠ 0
    · have q1 := c1
      exact deep c0 c1
    · have z : M 11 0 = 0 := Classical.not_not.mp c1
      refine st_same I (v := -4) (w := -4) ?_ ?_ rfl
      · simp (disch := omega) only [X_X8_keep_0, wI_R hk, sp_hasNoLand hG, b2_t z, ob, w1, n10, if_false, wI_0, if_true, if_neg, if_pos]
      · simp only [X_X9_keep_53, wI_R hk, sp_in _ hk i0 i2, b2_t c0, es, wI_of (x := M 11 0) (by have := hG.1; omega) (by have := hG.2.1; omega), if_pos z, ob, w1, n10, if_false, wI_0, if_true]
  · refine st_same I (v := -1) (w := -1) ?_ ?_ rfl
    · rcases (show k < 0 ∨ 2 < k by omega) with q | q <;> simp (disch := omega) only [X_X8_keep_0, wI_R hk, ob, w1, n10, if_false, wI_0, if_true, if_neg, if_pos]
    · simp only [X_X9_keep_53, wI_R hk, sp_in _ hk i0 i2, b2_f c0, ob, w1, n10, if_false, wI_0, if_true]
theorem gd_moves {M : am_M} (I : Inv M) (deep : (M 11 0 ≠ 0) → Step X_X8_moves_0 X_X9_moves_53 M) : Step X_X8_moves_0 X_X9_moves_53 M := by
  have hG := I.g11
  have hs : 0 ≤ M 53 1 ∧ M 53 1 ≤ 12 := ⟨I.gM.1, I.gM.2.1⟩
  have es := I.2.2.2.1.1
  by_cases c0 : M 11 0 ≠ 0
  · have q0 := c0
    exact deep c0
  · have z : M 11 0 = 0 := Classical.not_not.mp c0
    refine st_same I (v := -4) (w := -4) ?_ ?_ rfl
    · simp (disch := omega) only [X_X8_moves_0, XB_X8_moves_0_e, sp_hasNoLand hG, b2_t z, ob, w1, n10, if_false, wI_0, if_true, if_neg, if_pos]
    · simp only [X_X9_moves_53, XB_X9_moves_53_e, es, wI_of (x := M 11 0) (by have := hG.1; omega) (by have := hG.2.1; omega), if_pos z, ob, w1, n10, if_false, wI_0, if_true]
theorem gd_judge {M : am_M} (I : Inv M) {r : Int} (hr : iR r) (deep : (0 ≤ r ∧ r < 6) → (M 11 0 ≠ 0) → (0 ≤ M 2 r.toNat) → Step (X_X8_judge_0 r) (X_X9_judge_53 r) M) : Step (X_X8_judge_0 r) (X_X9_judge_53 r) M := by
  have hG := I.g11
  have hs : 0 ≤ M 53 1 ∧ M 53 1 ≤ 12 := ⟨I.gM.1, I.gM.2.1⟩
  have es := I.2.2.2.1.1
  by_cases c0 : 0 ≤ r ∧ r < 6
  · have q0 := c0
    by_cases c1 : M 11 0 ≠ 0
    · have q1 := c1
      by_cases c2 : 0 ≤ M 2 r.toNat
      · have q2 := c2
        exact deep c0 c1 c2
      · have hb := I.2.1.2.1 r.toNat
        have e57 : ∀ N : am_M, N 57 = M 57 → N 57 r.toNat = M 2 r.toNat := fun N h => by rw [h, I.2.1.1]
        refine st_find I (f := 1) ?_ ?_
        · simp (disch := omega) only [X_X8_judge_0, sp_isNumber_1 I.sh1 hr, b2_t c0, sp_hasNoLand hG, b2_f (show ¬ M 11 0 = 0 from c1), sp_isThere_1 I.sh1 c0, b2_f c2, ob, w1, n10, if_false, wI_0, if_true, if_neg, if_pos, f_c1]
        · have es1 : (cF 1 M) 53 1 = M 11 0 := es
          have hs1 : 0 ≤ (cF 1 M) 53 1 ∧ (cF 1 M) 53 1 ≤ 12 := hs
          simp (disch := omega) only [X_X9_judge_53, sp_isRow _ hr, b2_t c0, es1, wI_of (x := M 11 0) (by have := hG.1; omega) (by have := hG.2.1; omega), if_neg (show ¬ M 11 0 = 0 from c1), wI_R hr, e57 (cF 1 M) rfl, wI_of (x := M 2 r.toNat), if_pos c0, ob, w1, n10, if_false, wI_0, if_true, if_pos, f_m1]
    · have z : M 11 0 = 0 := Classical.not_not.mp c1
      refine st_same I (v := -4) (w := -4) ?_ ?_ rfl
      · simp (disch := omega) only [X_X8_judge_0, sp_isNumber_1 I.sh1 hr, b2_t c0, sp_hasNoLand hG, b2_t z, ob, w1, n10, if_false, wI_0, if_true, if_neg, if_pos]
      · simp only [X_X9_judge_53, sp_isRow _ hr, b2_t c0, es, wI_of (x := M 11 0) (by have := hG.1; omega) (by have := hG.2.1; omega), if_pos z, ob, w1, n10, if_false, wI_0, if_true]
  · refine st_same I (v := -1) (w := -1) ?_ ?_ rfl
    · simp (disch := omega) only [X_X8_judge_0, sp_isNumber_1 I.sh1 hr, b2_f c0, ob, w1, n10, if_false, wI_0, if_true, if_neg, if_pos]
    · simp only [X_X9_judge_53, sp_isRow _ hr, b2_f c0, ob, w1, n10, if_false, wI_0, if_true]
theorem gd_rude {M : am_M} (I : Inv M) {r : Int} (hr : iR r) (deep : (0 ≤ r ∧ r < 6) → (M 11 0 ≠ 0) → (0 ≤ M 2 r.toNat) → Step (X_X8_rude_0 r) (X_X9_rude_53 r) M) : Step (X_X8_rude_0 r) (X_X9_rude_53 r) M := by
  have hG := I.g11
  have hs : 0 ≤ M 53 1 ∧ M 53 1 ≤ 12 := ⟨I.gM.1, I.gM.2.1⟩
  have es := I.2.2.2.1.1
  by_cases c0 : 0 ≤ r ∧ r < 6
  · have q0 := c0
    by_cases c1 : M 11 0 ≠ 0
    · have q1 := c1
      by_cases c2 : 0 ≤ M 2 r.toNat
      · have q2 := c2
        exact deep c0 c1 c2
      · have hb := I.2.1.2.1 r.toNat
        have e57 : ∀ N : am_M, N 57 = M 57 → N 57 r.toNat = M 2 r.toNat := fun N h => by rw [h, I.2.1.1]
        refine st_find I (f := 1) ?_ ?_
        · simp (disch := omega) only [X_X8_rude_0, sp_isNumber_1 I.sh1 hr, b2_t c0, sp_hasNoLand hG, b2_f (show ¬ M 11 0 = 0 from c1), sp_isThere_1 I.sh1 c0, b2_f c2, ob, w1, n10, if_false, wI_0, if_true, if_neg, if_pos, f_c1]
        · have es1 : (cF 1 M) 53 1 = M 11 0 := es
          have hs1 : 0 ≤ (cF 1 M) 53 1 ∧ (cF 1 M) 53 1 ≤ 12 := hs
          simp (disch := omega) only [X_X9_rude_53, sp_isRow _ hr, b2_t c0, es1, wI_of (x := M 11 0) (by have := hG.1; omega) (by have := hG.2.1; omega), if_neg (show ¬ M 11 0 = 0 from c1), wI_R hr, e57 (cF 1 M) rfl, wI_of (x := M 2 r.toNat), if_pos c0, ob, w1, n10, if_false, wI_0, if_true, if_pos, f_m1]
    · have z : M 11 0 = 0 := Classical.not_not.mp c1
      refine st_same I (v := -4) (w := -4) ?_ ?_ rfl
      · simp (disch := omega) only [X_X8_rude_0, sp_isNumber_1 I.sh1 hr, b2_t c0, sp_hasNoLand hG, b2_t z, ob, w1, n10, if_false, wI_0, if_true, if_neg, if_pos]
      · simp only [X_X9_rude_53, sp_isRow _ hr, b2_t c0, es, wI_of (x := M 11 0) (by have := hG.1; omega) (by have := hG.2.1; omega), if_pos z, ob, w1, n10, if_false, wI_0, if_true]
  · refine st_same I (v := -1) (w := -1) ?_ ?_ rfl
    · simp (disch := omega) only [X_X8_rude_0, sp_isNumber_1 I.sh1 hr, b2_f c0, ob, w1, n10, if_false, wI_0, if_true, if_neg, if_pos]
    · simp only [X_X9_rude_53, sp_isRow _ hr, b2_f c0, ob, w1, n10, if_false, wI_0, if_true]
theorem gd_books {M : am_M} (I : Inv M) {r : Int} (hr : iR r) (deep : (0 ≤ r ∧ r < 6) → (M 11 0 ≠ 0) → (0 ≤ M 2 r.toNat) → Step (X_X8_books_0 r) (X_X9_books_53 r) M) : Step (X_X8_books_0 r) (X_X9_books_53 r) M := by
  have hG := I.g11
  have hs : 0 ≤ M 53 1 ∧ M 53 1 ≤ 12 := ⟨I.gM.1, I.gM.2.1⟩
  have es := I.2.2.2.1.1
  by_cases c0 : 0 ≤ r ∧ r < 6
  · have q0 := c0
    by_cases c1 : M 11 0 ≠ 0
    · have q1 := c1
      by_cases c2 : 0 ≤ M 2 r.toNat
      · have q2 := c2
        exact deep c0 c1 c2
      · have hb := I.2.1.2.1 r.toNat
        have e57 : ∀ N : am_M, N 57 = M 57 → N 57 r.toNat = M 2 r.toNat := fun N h => by rw [h, I.2.1.1]
        refine st_find I (f := 1) ?_ ?_
        · simp (disch := omega) only [X_X8_books_0, sp_isNumber_1 I.sh1 hr, b2_t c0, sp_hasNoLand hG, b2_f (show ¬ M 11 0 = 0 from c1), sp_isThere_1 I.sh1 c0, b2_f c2, ob, w1, n10, if_false, wI_0, if_true, if_neg, if_pos, f_c1]
        · have es1 : (cF 1 M) 53 1 = M 11 0 := es
          have hs1 : 0 ≤ (cF 1 M) 53 1 ∧ (cF 1 M) 53 1 ≤ 12 := hs
          simp (disch := omega) only [X_X9_books_53, XB_X9_books_53_e, sp_isRow _ hr, b2_t c0, es1, wI_of (x := M 11 0) (by have := hG.1; omega) (by have := hG.2.1; omega), if_neg (show ¬ M 11 0 = 0 from c1), wI_R hr, e57 (cF 1 M) rfl, wI_of (x := M 2 r.toNat), if_pos c0, ob, w1, n10, if_false, wI_0, if_true, if_pos, f_m1]
    · have z : M 11 0 = 0 := Classical.not_not.mp c1
      refine st_same I (v := -4) (w := -4) ?_ ?_ rfl
      · simp (disch := omega) only [X_X8_books_0, sp_isNumber_1 I.sh1 hr, b2_t c0, sp_hasNoLand hG, b2_t z, ob, w1, n10, if_false, wI_0, if_true, if_neg, if_pos]
      · simp only [X_X9_books_53, XB_X9_books_53_e, sp_isRow _ hr, b2_t c0, es, wI_of (x := M 11 0) (by have := hG.1; omega) (by have := hG.2.1; omega), if_pos z, ob, w1, n10, if_false, wI_0, if_true]
  · refine st_same I (v := -1) (w := -1) ?_ ?_ rfl
    · simp (disch := omega) only [X_X8_books_0, sp_isNumber_1 I.sh1 hr, b2_f c0, ob, w1, n10, if_false, wI_0, if_true, if_neg, if_pos]
    · simp only [X_X9_books_53, XB_X9_books_53_e, sp_isRow _ hr, b2_f c0, ob, w1, n10, if_false, wI_0, if_true]
theorem gd_pays {M : am_M} (I : Inv M) {i r : Int} (hi : iR i) (hr : iR r) (deep : (0 ≤ i ∧ i < M 11 0) → (0 ≤ r ∧ r < 6) → (0 ≤ M 2 r.toNat) → Step (X_X8_pays_0 i r) (X_X9_pays_53 i r) M) : Step (X_X8_pays_0 i r) (X_X9_pays_53 i r) M := by
  have hG := I.g11
  have hs : 0 ≤ M 53 1 ∧ M 53 1 ≤ 12 := ⟨I.gM.1, I.gM.2.1⟩
  have es := I.2.2.2.1.1
  by_cases c0 : 0 ≤ i ∧ i < M 11 0
  · have q0 := c0
    by_cases c1 : 0 ≤ r ∧ r < 6
    · have q1 := c1
      by_cases c2 : 0 ≤ M 2 r.toNat
      · have q2 := c2
        exact deep c0 c1 c2
      · have hb := I.2.1.2.1 r.toNat
        have e57 : ∀ N : am_M, N 57 = M 57 → N 57 r.toNat = M 2 r.toNat := fun N h => by rw [h, I.2.1.1]
        refine st_find I (f := 1) ?_ ?_
        · simp (disch := omega) only [X_X8_pays_0, sp_has_11 hG hi, b2_t c0, sp_isNumber_1 I.sh1 hr, b2_t c1, sp_isThere_1 I.sh1 c1, b2_f c2, ob, w1, n10, if_false, wI_0, if_true, if_neg, if_pos, f_c1]
        · have es1 : (cF 1 M) 53 1 = M 11 0 := es
          have hs1 : 0 ≤ (cF 1 M) 53 1 ∧ (cF 1 M) 53 1 ≤ 12 := hs
          simp (disch := omega) only [X_X9_pays_53, XB_X9_pays_53_e, sp_isStrip hs1 hi, es1, b2_t c0, sp_isRow _ hr, b2_t c1, wI_R hr, e57 (cF 1 M) rfl, wI_of (x := M 2 r.toNat), if_pos c1, ob, w1, n10, if_false, wI_0, if_true, if_pos, f_m1]
    · refine st_same I (v := -1) (w := -1) ?_ ?_ rfl
      · simp (disch := omega) only [X_X8_pays_0, sp_has_11 hG hi, b2_t c0, sp_isNumber_1 I.sh1 hr, b2_f c1, ob, w1, n10, if_false, wI_0, if_true, if_neg, if_pos]
      · simp only [X_X9_pays_53, XB_X9_pays_53_e, sp_isStrip hs hi, es, b2_t c0, sp_isRow _ hr, b2_f c1, ob, w1, n10, if_false, wI_0, if_true]
  · refine st_same I (v := -1) (w := -1) ?_ ?_ rfl
    · simp (disch := omega) only [X_X8_pays_0, sp_has_11 hG hi, b2_f c0, ob, w1, n10, if_false, wI_0, if_true, if_neg, if_pos]
    · simp only [X_X9_pays_53, XB_X9_pays_53_e, sp_isStrip hs hi, es, b2_f c0, ob, w1, n10, if_false, wI_0, if_true]
theorem gd_soonest {M : am_M} (I : Inv M) {p r : Int} (hp : iR p) (hr : iR r) (deep : (0 ≤ p ∧ p ≤ M 11 0) → (0 ≤ r ∧ r < 6) → (M 11 0 ≠ 0) → Step (X_X8_soonest_0 p r) (X_X9_soonest_53 p r) M) : Step (X_X8_soonest_0 p r) (X_X9_soonest_53 p r) M := by
  have hG := I.g11
  have hs : 0 ≤ M 53 1 ∧ M 53 1 ≤ 12 := ⟨I.gM.1, I.gM.2.1⟩
  have es := I.2.2.2.1.1
  by_cases c0 : 0 ≤ p ∧ p ≤ M 11 0
  · have q0 := c0
    by_cases c1 : 0 ≤ r ∧ r < 6
    · have q1 := c1
      by_cases c2 : M 11 0 ≠ 0
      · have q2 := c2
        exact deep c0 c1 c2
      · have z : M 11 0 = 0 := Classical.not_not.mp c2
        refine st_same I (v := -4) (w := -4) ?_ ?_ rfl
        · simp (disch := omega) only [X_X8_soonest_0, sp_isPlace_11 hG hp, b2_t c0, sp_isNumber_1 I.sh1 hr, b2_t c1, sp_hasNoLand hG, b2_t z, ob, w1, n10, if_false, wI_0, if_true, if_neg, if_pos]
        · simp only [X_X9_soonest_53, XB_X9_soonest_53_e, sp_isPlace hs hp, es, b2_t c0, sp_isRow _ hr, b2_t c1, es, wI_of (x := M 11 0) (by have := hG.1; omega) (by have := hG.2.1; omega), if_pos z, ob, w1, n10, if_false, wI_0, if_true]
    · refine st_same I (v := -1) (w := -1) ?_ ?_ rfl
      · simp (disch := omega) only [X_X8_soonest_0, sp_isPlace_11 hG hp, b2_t c0, sp_isNumber_1 I.sh1 hr, b2_f c1, ob, w1, n10, if_false, wI_0, if_true, if_neg, if_pos]
      · simp only [X_X9_soonest_53, XB_X9_soonest_53_e, sp_isPlace hs hp, es, b2_t c0, sp_isRow _ hr, b2_f c1, ob, w1, n10, if_false, wI_0, if_true]
  · refine st_same I (v := -1) (w := -1) ?_ ?_ rfl
    · simp (disch := omega) only [X_X8_soonest_0, sp_isPlace_11 hG hp, b2_f c0, ob, w1, n10, if_false, wI_0, if_true, if_neg, if_pos]
    · simp only [X_X9_soonest_53, XB_X9_soonest_53_e, sp_isPlace hs hp, es, b2_f c0, ob, w1, n10, if_false, wI_0, if_true]
theorem gd_polite {M : am_M} (I : Inv M) {p n r : Int} (hp : iR p) (hn : iR n) (hr : iR r) (deep : (0 ≤ p ∧ p ≤ M 11 0) → (0 ≤ n ∧ n ≤ 20) → (0 ≤ r ∧ r < 6) → (M 11 0 ≠ 0) → Step (X_X8_polite_0 p n r) (X_X9_polite_53 p n r) M) : Step (X_X8_polite_0 p n r) (X_X9_polite_53 p n r) M := by
  have hG := I.g11
  have hs : 0 ≤ M 53 1 ∧ M 53 1 ≤ 12 := ⟨I.gM.1, I.gM.2.1⟩
  have es := I.2.2.2.1.1
  by_cases c0 : 0 ≤ p ∧ p ≤ M 11 0
  · have q0 := c0
    by_cases c1 : 0 ≤ n ∧ n ≤ 20
    · have q1 := c1
      by_cases c2 : 0 ≤ r ∧ r < 6
      · have q2 := c2
        by_cases c3 : M 11 0 ≠ 0
        · have q3 := c3
          exact deep c0 c1 c2 c3
        · have z : M 11 0 = 0 := Classical.not_not.mp c3
          refine st_same I (v := -4) (w := -4) ?_ ?_ rfl
          · simp (disch := omega) only [X_X8_polite_0, sp_isPlace_11 hG hp, b2_t c0, sp_isPlan _ hn, b2_t c1, sp_isNumber_1 I.sh1 hr, b2_t c2, sp_hasNoLand hG, b2_t z, ob, w1, n10, if_false, wI_0, if_true, if_neg, if_pos]
          · simp only [X_X9_polite_53, sp_isPlace hs hp, es, b2_t c0, wI_R hn, sp_in _ hn i0 i20, b2_t c1, sp_isRow _ hr, b2_t c2, es, wI_of (x := M 11 0) (by have := hG.1; omega) (by have := hG.2.1; omega), if_pos z, ob, w1, n10, if_false, wI_0, if_true]
      · refine st_same I (v := -1) (w := -1) ?_ ?_ rfl
        · simp (disch := omega) only [X_X8_polite_0, sp_isPlace_11 hG hp, b2_t c0, sp_isPlan _ hn, b2_t c1, sp_isNumber_1 I.sh1 hr, b2_f c2, ob, w1, n10, if_false, wI_0, if_true, if_neg, if_pos]
        · simp only [X_X9_polite_53, sp_isPlace hs hp, es, b2_t c0, wI_R hn, sp_in _ hn i0 i20, b2_t c1, sp_isRow _ hr, b2_f c2, ob, w1, n10, if_false, wI_0, if_true]
    · refine st_same I (v := -1) (w := -1) ?_ ?_ rfl
      · simp (disch := omega) only [X_X8_polite_0, sp_isPlace_11 hG hp, b2_t c0, sp_isPlan _ hn, b2_f c1, ob, w1, n10, if_false, wI_0, if_true, if_neg, if_pos]
      · simp only [X_X9_polite_53, sp_isPlace hs hp, es, b2_t c0, wI_R hn, sp_in _ hn i0 i20, b2_f c1, ob, w1, n10, if_false, wI_0, if_true]
  · refine st_same I (v := -1) (w := -1) ?_ ?_ rfl
    · simp (disch := omega) only [X_X8_polite_0, sp_isPlace_11 hG hp, b2_f c0, ob, w1, n10, if_false, wI_0, if_true, if_neg, if_pos]
    · simp only [X_X9_polite_53, sp_isPlace hs hp, es, b2_f c0, ob, w1, n10, if_false, wI_0, if_true]
theorem gd_ways {M : am_M} (I : Inv M) {p n : Int} (hp : iR p) (hn : iR n) (deep : (0 ≤ p ∧ p ≤ M 11 0) → (0 ≤ n ∧ n ≤ 20) → (M 11 0 ≠ 0) → Step (X_X8_ways_0 p n) (X_X9_ways_53 p n) M) : Step (X_X8_ways_0 p n) (X_X9_ways_53 p n) M := by
  have hG := I.g11
  have hs : 0 ≤ M 53 1 ∧ M 53 1 ≤ 12 := ⟨I.gM.1, I.gM.2.1⟩
  have es := I.2.2.2.1.1
  by_cases c0 : 0 ≤ p ∧ p ≤ M 11 0
  · have q0 := c0
    by_cases c1 : 0 ≤ n ∧ n ≤ 20
    · have q1 := c1
      by_cases c2 : M 11 0 ≠ 0
      · have q2 := c2
        exact deep c0 c1 c2
      · have z : M 11 0 = 0 := Classical.not_not.mp c2
        refine st_same I (v := -4) (w := -4) ?_ ?_ rfl
        · simp (disch := omega) only [X_X8_ways_0, sp_isPlace_11 hG hp, b2_t c0, sp_isPlan _ hn, b2_t c1, sp_hasNoLand hG, b2_t z, ob, w1, n10, if_false, wI_0, if_true, if_neg, if_pos]
        · simp only [X_X9_ways_53, sp_isPlace hs hp, es, b2_t c0, wI_R hn, sp_in _ hn i0 i20, b2_t c1, es, wI_of (x := M 11 0) (by have := hG.1; omega) (by have := hG.2.1; omega), if_pos z, ob, w1, n10, if_false, wI_0, if_true]
    · refine st_same I (v := -1) (w := -1) ?_ ?_ rfl
      · simp (disch := omega) only [X_X8_ways_0, sp_isPlace_11 hG hp, b2_t c0, sp_isPlan _ hn, b2_f c1, ob, w1, n10, if_false, wI_0, if_true, if_neg, if_pos]
      · simp only [X_X9_ways_53, sp_isPlace hs hp, es, b2_t c0, wI_R hn, sp_in _ hn i0 i20, b2_f c1, ob, w1, n10, if_false, wI_0, if_true]
  · refine st_same I (v := -1) (w := -1) ?_ ?_ rfl
    · simp (disch := omega) only [X_X8_ways_0, sp_isPlace_11 hG hp, b2_f c0, ob, w1, n10, if_false, wI_0, if_true, if_neg, if_pos]
    · simp only [X_X9_ways_53, sp_isPlace hs hp, es, b2_f c0, ob, w1, n10, if_false, wI_0, if_true]
theorem gd_reach {M : am_M} (I : Inv M) {n : Int} (hn : iR n) (deep : (0 ≤ n ∧ n ≤ 20) → (M 11 0 ≠ 0) → Step (X_X8_reach_0 n) (X_X9_reach_53 n) M) : Step (X_X8_reach_0 n) (X_X9_reach_53 n) M := by
  have hG := I.g11
  have hs : 0 ≤ M 53 1 ∧ M 53 1 ≤ 12 := ⟨I.gM.1, I.gM.2.1⟩
  have es := I.2.2.2.1.1
  by_cases c0 : 0 ≤ n ∧ n ≤ 20
  · have q0 := c0
    by_cases c1 : M 11 0 ≠ 0
    · have q1 := c1
      exact deep c0 c1
    · have z : M 11 0 = 0 := Classical.not_not.mp c1
      refine st_same I (v := -4) (w := -4) ?_ ?_ rfl
      · simp (disch := omega) only [X_X8_reach_0, sp_isPlan _ hn, b2_t c0, sp_hasNoLand hG, b2_t z, ob, w1, n10, if_false, wI_0, if_true, if_neg, if_pos]
      · simp only [X_X9_reach_53, wI_R hn, sp_in _ hn i0 i20, b2_t c0, es, wI_of (x := M 11 0) (by have := hG.1; omega) (by have := hG.2.1; omega), if_pos z, ob, w1, n10, if_false, wI_0, if_true]
  · refine st_same I (v := -1) (w := -1) ?_ ?_ rfl
    · simp (disch := omega) only [X_X8_reach_0, sp_isPlan _ hn, b2_f c0, ob, w1, n10, if_false, wI_0, if_true, if_neg, if_pos]
    · simp only [X_X9_reach_53, wI_R hn, sp_in _ hn i0 i20, b2_f c0, ob, w1, n10, if_false, wI_0, if_true]
theorem gd_least {M : am_M} (I : Inv M) {i n r : Int} (hi : iR i) (hn : iR n) (hr : iR r) (deep : (0 ≤ i ∧ i < M 11 0) → (0 ≤ n ∧ n ≤ 20) → (0 ≤ r ∧ r < 6) → Step (X_X8_least_0 i n r) (X_X9_least_53 i n r) M) : Step (X_X8_least_0 i n r) (X_X9_least_53 i n r) M := by
  have hG := I.g11
  have hs : 0 ≤ M 53 1 ∧ M 53 1 ≤ 12 := ⟨I.gM.1, I.gM.2.1⟩
  have es := I.2.2.2.1.1
  by_cases c0 : 0 ≤ i ∧ i < M 11 0
  · have q0 := c0
    by_cases c1 : 0 ≤ n ∧ n ≤ 20
    · have q1 := c1
      by_cases c2 : 0 ≤ r ∧ r < 6
      · have q2 := c2
        exact deep c0 c1 c2
      · refine st_same I (v := -1) (w := -1) ?_ ?_ rfl
        · simp (disch := omega) only [X_X8_least_0, sp_has_11 hG hi, b2_t c0, sp_isPlan _ hn, b2_t c1, sp_isNumber_1 I.sh1 hr, b2_f c2, ob, w1, n10, if_false, wI_0, if_true, if_neg, if_pos]
        · simp only [X_X9_least_53, sp_isStrip hs hi, es, b2_t c0, wI_R hn, sp_in _ hn i0 i20, b2_t c1, sp_isRow _ hr, b2_f c2, ob, w1, n10, if_false, wI_0, if_true]
    · refine st_same I (v := -1) (w := -1) ?_ ?_ rfl
      · simp (disch := omega) only [X_X8_least_0, sp_has_11 hG hi, b2_t c0, sp_isPlan _ hn, b2_f c1, ob, w1, n10, if_false, wI_0, if_true, if_neg, if_pos]
      · simp only [X_X9_least_53, sp_isStrip hs hi, es, b2_t c0, wI_R hn, sp_in _ hn i0 i20, b2_f c1, ob, w1, n10, if_false, wI_0, if_true]
  · refine st_same I (v := -1) (w := -1) ?_ ?_ rfl
    · simp (disch := omega) only [X_X8_least_0, sp_has_11 hG hi, b2_f c0, ob, w1, n10, if_false, wI_0, if_true, if_neg, if_pos]
    · simp only [X_X9_least_53, sp_isStrip hs hi, es, b2_f c0, ob, w1, n10, if_false, wI_0, if_true]
theorem gd_most {M : am_M} (I : Inv M) {c n : Int} (hc : iR c) (hn : iR n) (deep : (0 ≤ c ∧ c ≤ 1) → (0 ≤ n ∧ n ≤ 20) → (M 11 0 ≠ 0) → Step (X_X8_most_0 c n) (X_X9_most_53 c n) M) : Step (X_X8_most_0 c n) (X_X9_most_53 c n) M := by
  have hG := I.g11
  have hs : 0 ≤ M 53 1 ∧ M 53 1 ≤ 12 := ⟨I.gM.1, I.gM.2.1⟩
  have es := I.2.2.2.1.1
  by_cases c0 : 0 ≤ c ∧ c ≤ 1
  · have q0 := c0
    by_cases c1 : 0 ≤ n ∧ n ≤ 20
    · have q1 := c1
      by_cases c2 : M 11 0 ≠ 0
      · have q2 := c2
        exact deep c0 c1 c2
      · have z : M 11 0 = 0 := Classical.not_not.mp c2
        refine st_same I (v := -4) (w := -4) ?_ ?_ rfl
        · simp (disch := omega) only [X_X8_most_0, sp_isCrown _ hc, b2_t c0, sp_isPlan _ hn, b2_t c1, sp_hasNoLand hG, b2_t z, ob, w1, n10, if_false, wI_0, if_true, if_neg, if_pos]
        · simp only [X_X9_most_53, wI_R hc, sp_in _ hc i0 i1, b2_t c0, wI_R hn, sp_in _ hn i0 i20, b2_t c1, es, wI_of (x := M 11 0) (by have := hG.1; omega) (by have := hG.2.1; omega), if_pos z, ob, w1, n10, if_false, wI_0, if_true]
    · refine st_same I (v := -1) (w := -1) ?_ ?_ rfl
      · simp (disch := omega) only [X_X8_most_0, sp_isCrown _ hc, b2_t c0, sp_isPlan _ hn, b2_f c1, ob, w1, n10, if_false, wI_0, if_true, if_neg, if_pos]
      · simp only [X_X9_most_53, wI_R hc, sp_in _ hc i0 i1, b2_t c0, wI_R hn, sp_in _ hn i0 i20, b2_f c1, ob, w1, n10, if_false, wI_0, if_true]
  · refine st_same I (v := -1) (w := -1) ?_ ?_ rfl
    · simp (disch := omega) only [X_X8_most_0, sp_isCrown _ hc, b2_f c0, ob, w1, n10, if_false, wI_0, if_true, if_neg, if_pos]
    · simp only [X_X9_most_53, wI_R hc, sp_in _ hc i0 i1, b2_f c0, ob, w1, n10, if_false, wI_0, if_true]
theorem gd_now {M : am_M} (I : Inv M) (deep : (M 11 0 ≠ 0) → Step X_X8_now_0 X_X9_now_53 M) : Step X_X8_now_0 X_X9_now_53 M := by
  have hG := I.g11
  have hs : 0 ≤ M 53 1 ∧ M 53 1 ≤ 12 := ⟨I.gM.1, I.gM.2.1⟩
  have es := I.2.2.2.1.1
  by_cases c0 : M 11 0 ≠ 0
  · have q0 := c0
    exact deep c0
  · have z : M 11 0 = 0 := Classical.not_not.mp c0
    refine st_same I (v := -4) (w := -4) ?_ ?_ rfl
    · simp (disch := omega) only [X_X8_now_0, sp_hasNoLand hG, b2_t z, ob, w1, n10, if_false, wI_0, if_true, if_neg, if_pos]
    · simp only [X_X9_now_53, XB_X9_now_53_e, es, wI_of (x := M 11 0) (by have := hG.1; omega) (by have := hG.2.1; omega), if_pos z, ob, w1, n10, if_false, wI_0, if_true]
theorem gd_odds {M : am_M} (I : Inv M) {p n : Int} (hp : iR p) (hn : iR n) (deep : (0 ≤ p ∧ p ≤ M 11 0) → (0 ≤ n ∧ n ≤ 6) → (M 11 0 ≠ 0) → Step (X_X8_odds_0 p n) (X_X9_odds_53 p n) M) : Step (X_X8_odds_0 p n) (X_X9_odds_53 p n) M := by
  have hG := I.g11
  have hs : 0 ≤ M 53 1 ∧ M 53 1 ≤ 12 := ⟨I.gM.1, I.gM.2.1⟩
  have es := I.2.2.2.1.1
  by_cases c0 : 0 ≤ p ∧ p ≤ M 11 0
  · have q0 := c0
    by_cases c1 : 0 ≤ n ∧ n ≤ 6
    · have q1 := c1
      by_cases c2 : M 11 0 ≠ 0
      · have q2 := c2
        exact deep c0 c1 c2
      · have z : M 11 0 = 0 := Classical.not_not.mp c2
        refine st_same I (v := -4) (w := -4) ?_ ?_ rfl
        · simp (disch := omega) only [X_X8_odds_0, sp_isPlace_11 hG hp, b2_t c0, sp_isChance _ hn, b2_t c1, sp_hasNoLand hG, b2_t z, ob, w1, n10, if_false, wI_0, if_true, if_neg, if_pos]
        · simp only [X_X9_odds_53, sp_isPlace hs hp, es, b2_t c0, wI_R hn, sp_in _ hn i0 i6, b2_t c1, es, wI_of (x := M 11 0) (by have := hG.1; omega) (by have := hG.2.1; omega), if_pos z, ob, w1, n10, if_false, wI_0, if_true]
    · refine st_same I (v := -1) (w := -1) ?_ ?_ rfl
      · simp (disch := omega) only [X_X8_odds_0, sp_isPlace_11 hG hp, b2_t c0, sp_isChance _ hn, b2_f c1, ob, w1, n10, if_false, wI_0, if_true, if_neg, if_pos]
      · simp only [X_X9_odds_53, sp_isPlace hs hp, es, b2_t c0, wI_R hn, sp_in _ hn i0 i6, b2_f c1, ob, w1, n10, if_false, wI_0, if_true]
  · refine st_same I (v := -1) (w := -1) ?_ ?_ rfl
    · simp (disch := omega) only [X_X8_odds_0, sp_isPlace_11 hG hp, b2_f c0, ob, w1, n10, if_false, wI_0, if_true, if_neg, if_pos]
    · simp only [X_X9_odds_53, sp_isPlace hs hp, es, b2_f c0, ob, w1, n10, if_false, wI_0, if_true]
theorem gd_met {M : am_M} (I : Inv M) {p n : Int} (hp : iR p) (hn : iR n) (deep : (0 ≤ p ∧ p ≤ M 11 0) → (0 ≤ n ∧ n ≤ 6) → (M 11 0 ≠ 0) → Step (X_X8_met_0 p n) (X_X9_met_53 p n) M) : Step (X_X8_met_0 p n) (X_X9_met_53 p n) M := by
  have hG := I.g11
  have hs : 0 ≤ M 53 1 ∧ M 53 1 ≤ 12 := ⟨I.gM.1, I.gM.2.1⟩
  have es := I.2.2.2.1.1
  by_cases c0 : 0 ≤ p ∧ p ≤ M 11 0
  · have q0 := c0
    by_cases c1 : 0 ≤ n ∧ n ≤ 6
    · have q1 := c1
      by_cases c2 : M 11 0 ≠ 0
      · have q2 := c2
        exact deep c0 c1 c2
      · have z : M 11 0 = 0 := Classical.not_not.mp c2
        refine st_same I (v := -4) (w := -4) ?_ ?_ rfl
        · simp (disch := omega) only [X_X8_met_0, sp_isPlace_11 hG hp, b2_t c0, sp_isChance _ hn, b2_t c1, sp_hasNoLand hG, b2_t z, ob, w1, n10, if_false, wI_0, if_true, if_neg, if_pos]
        · simp only [X_X9_met_53, sp_isPlace hs hp, es, b2_t c0, wI_R hn, sp_in _ hn i0 i6, b2_t c1, es, wI_of (x := M 11 0) (by have := hG.1; omega) (by have := hG.2.1; omega), if_pos z, ob, w1, n10, if_false, wI_0, if_true]
    · refine st_same I (v := -1) (w := -1) ?_ ?_ rfl
      · simp (disch := omega) only [X_X8_met_0, sp_isPlace_11 hG hp, b2_t c0, sp_isChance _ hn, b2_f c1, ob, w1, n10, if_false, wI_0, if_true, if_neg, if_pos]
      · simp only [X_X9_met_53, sp_isPlace hs hp, es, b2_t c0, wI_R hn, sp_in _ hn i0 i6, b2_f c1, ob, w1, n10, if_false, wI_0, if_true]
  · refine st_same I (v := -1) (w := -1) ?_ ?_ rfl
    · simp (disch := omega) only [X_X8_met_0, sp_isPlace_11 hG hp, b2_f c0, ob, w1, n10, if_false, wI_0, if_true, if_neg, if_pos]
    · simp only [X_X9_met_53, sp_isPlace hs hp, es, b2_f c0, ob, w1, n10, if_false, wI_0, if_true]
theorem gd_hedge {M : am_M} (I : Inv M) {i n : Int} (hi : iR i) (hn : iR n) (deep : (0 ≤ i ∧ i < M 11 0) → (0 ≤ n ∧ n ≤ 6) → Step (X_X8_hedge_0 i n) (X_X9_hedge_53 i n) M) : Step (X_X8_hedge_0 i n) (X_X9_hedge_53 i n) M := by
  have hG := I.g11
  have hs : 0 ≤ M 53 1 ∧ M 53 1 ≤ 12 := ⟨I.gM.1, I.gM.2.1⟩
  have es := I.2.2.2.1.1
  by_cases c0 : 0 ≤ i ∧ i < M 11 0
  · have q0 := c0
    by_cases c1 : 0 ≤ n ∧ n ≤ 6
    · have q1 := c1
      exact deep c0 c1
    · refine st_same I (v := -1) (w := -1) ?_ ?_ rfl
      · simp (disch := omega) only [X_X8_hedge_0, sp_has_11 hG hi, b2_t c0, sp_isChance _ hn, b2_f c1, ob, w1, n10, if_false, wI_0, if_true, if_neg, if_pos]
      · simp only [X_X9_hedge_53, sp_isStrip hs hi, es, b2_t c0, wI_R hn, sp_in _ hn i0 i6, b2_f c1, ob, w1, n10, if_false, wI_0, if_true]
  · refine st_same I (v := -1) (w := -1) ?_ ?_ rfl
    · simp (disch := omega) only [X_X8_hedge_0, sp_has_11 hG hi, b2_f c0, ob, w1, n10, if_false, wI_0, if_true, if_neg, if_pos]
    · simp only [X_X9_hedge_53, sp_isStrip hs hi, es, b2_f c0, ob, w1, n10, if_false, wI_0, if_true]
theorem gd_game {M : am_M} (I : Inv M) {n v : Int} (hn : iR n) (hv : iR v) (deep : ((0 ≤ n ∧ n ≤ 4) ∧ 0 ≤ v ∧ v ≤ 9) → (M 11 0 ≠ 0) → Step (X_X8_game_0 n v) (X_X9_game_53 n v) M) : Step (X_X8_game_0 n v) (X_X9_game_53 n v) M := by
  have hG := I.g11
  have hs : 0 ≤ M 53 1 ∧ M 53 1 ≤ 12 := ⟨I.gM.1, I.gM.2.1⟩
  have es := I.2.2.2.1.1
  by_cases c0 : (0 ≤ n ∧ n ≤ 4) ∧ 0 ≤ v ∧ v ≤ 9
  · have q0 := c0
    by_cases c1 : M 11 0 ≠ 0
    · have q1 := c1
      exact deep c0 c1
    · have z : M 11 0 = 0 := Classical.not_not.mp c1
      refine st_same I (v := -4) (w := -4) ?_ ?_ rfl
      · simp (disch := omega) only [X_X8_game_0, sp_isGame_c _ hn hv, b2_t c0, sp_hasNoLand hG, b2_t z, ob, w1, n10, if_false, wI_0, if_true, if_neg, if_pos]
      · simp only [X_X9_game_53, sp_isGame_m _ hn hv i0, b2_t c0, es, wI_of (x := M 11 0) (by have := hG.1; omega) (by have := hG.2.1; omega), if_pos z, ob, w1, n10, if_false, wI_0, if_true]
  · refine st_same I (v := -1) (w := -1) ?_ ?_ rfl
    · simp (disch := omega) only [X_X8_game_0, sp_isGame_c _ hn hv, b2_f c0, ob, w1, n10, if_false, wI_0, if_true, if_neg, if_pos]
    · simp only [X_X9_game_53, sp_isGame_m _ hn hv i0, b2_f c0, ob, w1, n10, if_false, wI_0, if_true]
theorem gd_calm {M : am_M} (I : Inv M) {n v : Int} (hn : iR n) (hv : iR v) (deep : ((0 ≤ n ∧ n ≤ 4) ∧ 0 ≤ v ∧ v ≤ 9) → (M 11 0 ≠ 0) → Step (X_X8_calm_0 n v) (X_X9_calm_53 n v) M) : Step (X_X8_calm_0 n v) (X_X9_calm_53 n v) M := by
  have hG := I.g11
  have hs : 0 ≤ M 53 1 ∧ M 53 1 ≤ 12 := ⟨I.gM.1, I.gM.2.1⟩
  have es := I.2.2.2.1.1
  by_cases c0 : (0 ≤ n ∧ n ≤ 4) ∧ 0 ≤ v ∧ v ≤ 9
  · have q0 := c0
    by_cases c1 : M 11 0 ≠ 0
    · have q1 := c1
      exact deep c0 c1
    · have z : M 11 0 = 0 := Classical.not_not.mp c1
      refine st_same I (v := -4) (w := -4) ?_ ?_ rfl
      · simp (disch := omega) only [X_X8_calm_0, sp_isGame_c _ hn hv, b2_t c0, sp_hasNoLand hG, b2_t z, ob, w1, n10, if_false, wI_0, if_true, if_neg, if_pos]
      · simp only [X_X9_calm_53, XB_X9_calm_53_e, sp_isGame_m _ hn hv i0, b2_t c0, es, wI_of (x := M 11 0) (by have := hG.1; omega) (by have := hG.2.1; omega), if_pos z, ob, w1, n10, if_false, wI_0, if_true]
  · refine st_same I (v := -1) (w := -1) ?_ ?_ rfl
    · simp (disch := omega) only [X_X8_calm_0, sp_isGame_c _ hn hv, b2_f c0, ob, w1, n10, if_false, wI_0, if_true, if_neg, if_pos]
    · simp only [X_X9_calm_53, XB_X9_calm_53_e, sp_isGame_m _ hn hv i0, b2_f c0, ob, w1, n10, if_false, wI_0, if_true]
theorem gd_kinds {M : am_M} (I : Inv M) {i : Int} (hi : iR i) (deep : (0 ≤ i ∧ i < M 11 0) → Step (X_X8_kinds_0 i) (X_X9_kinds_53 i) M) : Step (X_X8_kinds_0 i) (X_X9_kinds_53 i) M := by
  have hG := I.g11
  have hs : 0 ≤ M 53 1 ∧ M 53 1 ≤ 12 := ⟨I.gM.1, I.gM.2.1⟩
  have es := I.2.2.2.1.1
  by_cases c0 : 0 ≤ i ∧ i < M 11 0
  · have q0 := c0
    exact deep c0
  · refine st_same I (v := -1) (w := -1) ?_ ?_ rfl
    · simp (disch := omega) only [X_X8_kinds_0, sp_has_11 hG hi, b2_f c0, ob, w1, n10, if_false, wI_0, if_true, if_neg, if_pos]
    · simp only [X_X9_kinds_53, XB_X9_kinds_53_e, sp_isStrip hs hi, es, b2_f c0, ob, w1, n10, if_false, wI_0, if_true]
theorem gd_lots {M : am_M} (I : Inv M) {n s : Int} (hn : iR n) (hs : iR s) (deep : (1 ≤ n ∧ n ≤ 20) → (1 ≤ s ∧ s ≤ 2147483646) → (M 11 0 ≠ 0) → Step (X_X8_lots_0 n s) (X_X9_lots_53 n s) M) : Step (X_X8_lots_0 n s) (X_X9_lots_53 n s) M := by
  have hG := I.g11
  have hS0 : 0 ≤ M 53 1 ∧ M 53 1 ≤ 12 := ⟨I.gM.1, I.gM.2.1⟩
  have es := I.2.2.2.1.1
  by_cases c0 : 1 ≤ n ∧ n ≤ 20
  · have q0 := c0
    by_cases c1 : 1 ≤ s ∧ s ≤ 2147483646
    · have q1 := c1
      by_cases c2 : M 11 0 ≠ 0
      · have q2 := c2
        exact deep c0 c1 c2
      · have z : M 11 0 = 0 := Classical.not_not.mp c2
        refine st_same I (v := -4) (w := -4) ?_ ?_ rfl
        · simp (disch := omega) only [X_X8_lots_0, XB_X8_lots_0_e, wI_R hn, wI_R hs, lc_seed hs, sp_hasNoLand hG, b2_t z, ob, w1, n10, if_false, wI_0, if_true, if_neg, if_pos]
        · simp only [X_X9_lots_53, XB_X9_lots_53_e, wI_R hn, sp_in _ hn i1 i20, b2_t c0, wI_R hs, sp_in _ hs i1 iS, b2_t c1, es, wI_of (x := M 11 0) (by have := hG.1; omega) (by have := hG.2.1; omega), if_pos z, ob, w1, n10, if_false, wI_0, if_true]
    · refine st_same I (v := -1) (w := -1) ?_ ?_ rfl
      · rcases (show s < 1 ∨ 2147483646 < s by omega) with q | q <;> simp (disch := omega) only [X_X8_lots_0, XB_X8_lots_0_e, wI_R hn, wI_R hs, lc_seed hs, ob, w1, n10, if_false, wI_0, if_true, if_neg, if_pos]
      · simp only [X_X9_lots_53, XB_X9_lots_53_e, wI_R hn, sp_in _ hn i1 i20, b2_t c0, wI_R hs, sp_in _ hs i1 iS, b2_f c1, ob, w1, n10, if_false, wI_0, if_true]
  · refine st_same I (v := -1) (w := -1) ?_ ?_ rfl
    · rcases (show n < 1 ∨ 20 < n by omega) with q | q <;> simp (disch := omega) only [X_X8_lots_0, XB_X8_lots_0_e, wI_R hn, ob, w1, n10, if_false, wI_0, if_true, if_neg, if_pos]
    · simp only [X_X9_lots_53, XB_X9_lots_53_e, wI_R hn, sp_in _ hn i1 i20, b2_f c0, ob, w1, n10, if_false, wI_0, if_true]
theorem gd_fault {M : am_M} (I : Inv M) {t : Int} (ht : iR t) (deep : (0 ≤ t ∧ t < 4) → (0 ≤ M 5 t.toNat) → Step (X_X8_fault_0 t) (X_X9_fault_53 t) M) : Step (X_X8_fault_0 t) (X_X9_fault_53 t) M := by
  have hG := I.g11
  have hs : 0 ≤ M 53 1 ∧ M 53 1 ≤ 12 := ⟨I.gM.1, I.gM.2.1⟩
  have es := I.2.2.2.1.1
  by_cases c0 : 0 ≤ t ∧ t < 4
  · have q0 := c0
    by_cases c1 : 0 ≤ M 5 t.toNat
    · have q1 := c1
      exact deep c0 c1
    · have hb := I.2.2.1.2.1 t.toNat
      have e59 : ∀ N : am_M, N 59 = M 59 → N 59 t.toNat = M 5 t.toNat := fun N h => by rw [h, I.2.2.1.1]
      refine st_find I (f := 1) ?_ ?_
      · simp (disch := omega) only [X_X8_fault_0, sp_isNumber_4 I.sh4 ht, b2_t c0, sp_isThere_4 I.sh4 c0, b2_f c1, ob, w1, n10, if_false, wI_0, if_true, if_neg, if_pos, f_c1]
      · have es1 : (cF 1 M) 53 1 = M 11 0 := es
        have hs1 : 0 ≤ (cF 1 M) 53 1 ∧ (cF 1 M) 53 1 ≤ 12 := hs
        simp (disch := omega) only [X_X9_fault_53, sp_isText _ ht, b2_t c0, wI_R ht, e59 (cF 1 M) rfl, wI_of (x := M 5 t.toNat), if_pos c0, ob, w1, n10, if_false, wI_0, if_true, if_pos, f_m1]
  · refine st_same I (v := -1) (w := -1) ?_ ?_ rfl
    · simp (disch := omega) only [X_X8_fault_0, sp_isNumber_4 I.sh4 ht, b2_f c0, ob, w1, n10, if_false, wI_0, if_true, if_neg, if_pos]
    · simp only [X_X9_fault_53, sp_isText _ ht, b2_f c0, ob, w1, n10, if_false, wI_0, if_true]
theorem gd_land {M : am_M} (I : Inv M) {t : Int} (ht : iR t) (deep : (0 ≤ t ∧ t < 4) → (0 ≤ M 5 t.toNat) → Step (X_X8_land_0 t) (X_X9_land_53 t) M) : Step (X_X8_land_0 t) (X_X9_land_53 t) M := by
  have hG := I.g11
  have hs : 0 ≤ M 53 1 ∧ M 53 1 ≤ 12 := ⟨I.gM.1, I.gM.2.1⟩
  have es := I.2.2.2.1.1
  by_cases c0 : 0 ≤ t ∧ t < 4
  · have q0 := c0
    by_cases c1 : 0 ≤ M 5 t.toNat
    · have q1 := c1
      exact deep c0 c1
    · have hb := I.2.2.1.2.1 t.toNat
      have e59 : ∀ N : am_M, N 59 = M 59 → N 59 t.toNat = M 5 t.toNat := fun N h => by rw [h, I.2.2.1.1]
      refine st_find I (f := 1) ?_ ?_
      · simp (disch := omega) only [X_X8_land_0, sp_isNumber_4 I.sh4 ht, b2_t c0, sp_isThere_4 I.sh4 c0, b2_f c1, ob, w1, n10, if_false, wI_0, if_true, if_neg, if_pos, f_c1]
      · have es1 : (cF 1 M) 53 1 = M 11 0 := es
        have hs1 : 0 ≤ (cF 1 M) 53 1 ∧ (cF 1 M) 53 1 ≤ 12 := hs
        simp (disch := omega) only [X_X9_land_53, XB_X9_land_53_e, sp_isText _ ht, b2_t c0, wI_R ht, e59 (cF 1 M) rfl, wI_of (x := M 5 t.toNat), if_pos c0, ob, w1, n10, if_false, wI_0, if_true, if_pos, f_m1]
  · refine st_same I (v := -1) (w := -1) ?_ ?_ rfl
    · simp (disch := omega) only [X_X8_land_0, sp_isNumber_4 I.sh4 ht, b2_f c0, ob, w1, n10, if_false, wI_0, if_true, if_neg, if_pos]
    · simp only [X_X9_land_53, XB_X9_land_53_e, sp_isText _ ht, b2_f c0, ob, w1, n10, if_false, wI_0, if_true]
theorem gd_said {M : am_M} (I : Inv M) {n v : Int} (hn : iR n) (hv : iR v) (deep : ((1 ≤ n ∧ n ≤ 4) ∧ 0 ≤ v ∧ v ≤ 9) → M 11 0 ≠ 0 → Step (X_X8_said_0 n v) (X_X9_said_53 n v) M) : Step (X_X8_said_0 n v) (X_X9_said_53 n v) M := by
  have hG := I.g11
  have es := I.2.2.2.1.1
  by_cases c0 : (1 ≤ n ∧ n ≤ 4) ∧ 0 ≤ v ∧ v ≤ 9
  · have d0 : (0 ≤ n ∧ n ≤ 4) ∧ 0 ≤ v ∧ v ≤ 9 := by omega
    by_cases c1 : M 11 0 ≠ 0
    · exact deep c0 c1
    · have z : M 11 0 = 0 := Classical.not_not.mp c1
      refine st_same I (v := -4) (w := -4) ?_ ?_ rfl
      · simp (disch := omega) only [X_X8_said_0, sp_isGame_c _ hn hv, b2_t d0, wI_R hn, sp_hasNoLand hG, b2_t z, ob, w1, n10, if_false, if_neg]
      · simp only [X_X9_said_53, sp_isGame_m _ hn hv i1, b2_t c0, ob, w1, n10, if_false, es, z, wI_0, if_true]
  · refine st_same I (v := -1) (w := -1) ?_ ?_ rfl
    · by_cases d0 : (0 ≤ n ∧ n ≤ 4) ∧ 0 ≤ v ∧ v ≤ 9
      · simp (disch := omega) only [X_X8_said_0, sp_isGame_c _ hn hv, b2_t d0, wI_R hn, ob, w1, n10, if_false, if_pos]
      · simp only [X_X8_said_0, sp_isGame_c _ hn hv, b2_f d0, ob, wI_0, if_true]
    · simp only [X_X9_said_53, sp_isGame_m _ hn hv i1, b2_f c0, ob, wI_0, if_true]
theorem gd_law {M : am_M} (I : Inv M) {i d : Int} (hi : iR i) (hd : iR d) (deep : (0 ≤ i ∧ i < M 11 0) → 0 ≤ d → Step (X_X8_law_0 i d) (X_X9_law_53 i d) M) : Step (X_X8_law_0 i d) (X_X9_law_53 i d) M := by
  have hG := I.g11
  have hs : 0 ≤ M 53 1 ∧ M 53 1 ≤ 12 := ⟨I.gM.1, I.gM.2.1⟩
  have es := I.2.2.2.1.1
  by_cases c0 : 0 ≤ i ∧ i < M 11 0
  · by_cases c1 : 0 ≤ d
    · exact deep c0 c1
    · refine st_same I (v := -1) (w := -1) ?_ ?_ rfl
      · simp (disch := omega) only [X_X8_law_0, sp_has_11 hG hi, b2_t c0, ob, w1, n10, if_false, wI_R hd, if_pos]
      · simp (disch := omega) only [X_X9_law_53, sp_isStrip hs hi, es, b2_t c0, ob, w1, n10, if_false, wI_R hd, if_pos]
  · refine st_same I (v := -1) (w := -1) ?_ ?_ rfl
    · simp only [X_X8_law_0, sp_has_11 hG hi, b2_f c0, ob, wI_0, if_true]
    · simp only [X_X9_law_53, sp_isStrip hs hi, es, b2_f c0, ob, wI_0, if_true]
theorem gd_undo {M : am_M} (I : Inv M) {n : Int} (hn : iR n) (deep : (0 ≤ n ∧ n ≤ M 14 0) → Step (X_X8_undo_0 n) (X_X9_undo_53 n) M) : Step (X_X8_undo_0 n) (X_X9_undo_53 n) M := by
  have o1 : M 54 0 = M 14 0 := I.2.2.2.2.1.1.1
  have o2 := I.2.2.2.2.1.1.2.1
  have iD : iR (M 14 0) := by unfold iR; omega
  by_cases c0 : 0 ≤ n ∧ n ≤ M 14 0
  · exact deep c0
  · refine st_same I (v := -1) (w := -1) ?_ ?_ rfl
    · rcases (show n < 0 ∨ M 14 0 < n by omega) with q | q <;> simp (disch := omega) only [X_X8_undo_0, wI_R hn, wI_R iD, if_pos, if_neg]
    · simp only [X_X9_undo_53, o1, wI_R hn, wI_R iD, sp_in _ hn i0 iD, b2_f c0, ob, wI_0, if_true]
theorem gd_lain {M : am_M} (I : Inv M) {n : Int} (hn : iR n) (deep : (0 ≤ n ∧ n ≤ M 14 0) → Step (X_X8_lain_0 n) (X_X9_lain_53 n) M) : Step (X_X8_lain_0 n) (X_X9_lain_53 n) M := by
  have o1 : M 54 0 = M 14 0 := I.2.2.2.2.1.1.1
  have o2 := I.2.2.2.2.1.1.2.1
  have iD : iR (M 14 0) := by unfold iR; omega
  by_cases c0 : 0 ≤ n ∧ n ≤ M 14 0
  · exact deep c0
  · refine st_same I (v := -1) (w := -1) ?_ ?_ rfl
    · rcases (show n < 0 ∨ M 14 0 < n by omega) with q | q <;> simp (disch := omega) only [X_X8_lain_0, wI_R hn, wI_R iD, if_pos, if_neg]
    · simp only [X_X9_lain_53, o1, wI_R hn, wI_R iD, sp_in _ hn i0 iD, b2_f c0, ob, wI_0, if_true]
theorem gd_on {M : am_M} (I : Inv M) {k : Int} (hk : iR k) (deep : (0 ≤ k ∧ k ≤ 2) → 0 ≤ M 35 k.toNat → Step (X_X8_on_0 k) (X_X9_on_53 k) M) : Step (X_X8_on_0 k) (X_X9_on_53 k) M := by
  by_cases c0 : 0 ≤ k ∧ k ≤ 2
  · have hq := I.k35 k.toNat (by omega)
    by_cases c1 : 0 ≤ M 35 k.toNat
    · exact deep c0 c1
    · refine st_find I (f := 1) ?_ ?_
      · simp (disch := omega) only [X_X8_on_0, wI_R hk, wI_of (x := M 35 k.toNat), ob, if_neg, if_pos, f_c1]
      · have e1 : (cF 1 M) 54 (121 * (1 + k) + 0).toNat = M 35 k.toNat := by
          show M 54 (121 * (1 + k) + 0).toNat = _
          rw [show (121 * (1 + k) + 0).toNat = 121 * (1 + k.toNat) by omega]
          exact hq.1
        simp (disch := omega) only [X_X9_on_53, wI_R hk, sp_in _ hk i0 i2, b2_t c0, ob, w1, n10, if_false, wI_of (x := 121 * (1 + k) + 0), e1, wI_of (x := M 35 k.toNat), if_pos, f_m1]
  · refine st_same I (v := -1) (w := -1) ?_ ?_ rfl
    · rcases (show k < 0 ∨ 2 < k by omega) with q | q <;> simp (disch := omega) only [X_X8_on_0, wI_R hk, if_pos, if_neg]
    · simp only [X_X9_on_53, wI_R hk, sp_in _ hk i0 i2, b2_f c0, ob, wI_0, if_true]
