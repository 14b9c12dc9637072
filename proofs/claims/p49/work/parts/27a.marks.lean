section
theorem m_now {M : am_M} (I : Ib M) {i : Int} (hi : 0 ≤ i ∧ i < M 11 0) : X_X9_paysNow_53 i M = some (du_ M 0 i (M 14 1) + du_ M 1 i (M 14 1), M) := by
  have r1 := I.r1
  have rs := I.rs
  rw [X_X9_paysNow_53, I.d1, m_due0 I hi (by omega), ob]
  dsimp only
  rw [I.d1, m_due1 I hi (by omega), ob]
/-! Marks, dues now, moves that can be, which law holds. -/
theorem eq_mark {M : am_M} (I : Inv M) {i k : Int} (hi : iR i) (hk : iR k) : Step (X_X8_mark_0 i k) (X_X9_mark_53 i k) M := gd_mark I hi hk fun h1 h2 => by
  have hG := I.g11
  have rs := I.rs
  have r0 := I.r0
  have r1 := I.r1
  have es := I.es
  have hs : 0 ≤ M 53 1 ∧ M 53 1 ≤ 12 := ⟨I.gM.1, I.gM.2.1⟩
  have hi1 : 0 ≤ i ∧ i < M 53 1 := by rw [es]; exact h1
  have kd : M 55 i.toNat = M 12 i.toNat := I.kd (by omega)
  have s1 := sp_isOf_11 hG h1 h2
  have s2 := sp_isOf_53 I.gM hi1 h2
  rw [kd] at s2
  have dd0 := du_r I.b 0 i (M 14 1)
  have dd1 := du_r I.b 1 i (M 14 1)
  have c0 := c_both I.b h1 (b := M 14 1) (by omega)
  have m0 := m_now I.b h1
  have tt := sp_touches i (M 14 1) M hi (by unfold iR; omega) (by unfold iR; omega)
  have ta := sp_isAt (b := M 14 1) (i := i) M (by unfold iR; omega) hi (by unfold iR; omega)
  by_cases c : isk (M 12 i.toNat) k
  · rcases (show k = 1 ∨ k = 2 ∨ k = 3 ∨ k = 4 ∨ k = 5 by omega) with rfl | rfl | rfl | rfl | rfl
    · refine st_same I (v := du_ M 0 i (M 14 1) + du_ M 1 i (M 14 1)) (w := du_ M 0 i (M 14 1) + du_ M 1 i (M 14 1)) ?_ ?_ rfl
      · simp only [X_X8_mark_0, sp_has_11 hG hi, b2_t h1, ob, w1, n10, if_false, Int.reduceLT, Int.reduceAdd, Int.reduceEq, if_true, s1, b2_t c, c0]
      · simp only [X_X9_mark_53, sp_isStrip hs hi, b2_t hi1, ob, w1, n10, if_false, sp_in M hk i1 i5, b2_t h2, Int.reduceAdd, Int.reduceEq, s2, b2_t c, m0]
    · refine st_same I (v := if wI (b2 (M 14 1 = i ∨ M 14 1 = i + 1)) = 0 then 0 else 1) (w := if wI (b2 (M 14 1 = i ∨ M 14 1 = i + 1)) = 0 then 0 else 1) ?_ ?_ rfl
      · simp only [X_X8_mark_0, sp_has_11 hG hi, b2_t h1, ob, w1, n10, if_false, wI_2, Int.reduceLT, Int.reduceAdd, Int.reduceEq, if_true, s1, b2_t c, tt]
        split <;> rfl
      · simp only [X_X9_mark_53, sp_isStrip hs hi, b2_t hi1, ob, w1, n10, if_false, wI_2, sp_in M hk i1 i5, b2_t h2, Int.reduceAdd, Int.reduceEq, if_true, s2, b2_t c, I.d1, ta]
        split <;> rfl
    · refine st_same I (v := if wI ((wI (M 14 0)).tmod 2) = 0 then 1 else 0) (w := if wI ((wI (M 14 0)).tmod 2) = 0 then 1 else 0) ?_ ?_ rfl
      · simp only [X_X8_mark_0, sp_has_11 hG hi, b2_t h1, ob, w1, n10, if_false, show wI 3 = 3 from rfl, Int.reduceLT, Int.reduceAdd, Int.reduceEq, if_true, s1, b2_t c]
        split <;> rfl
      · simp only [X_X9_mark_53, sp_isStrip hs hi, b2_t hi1, ob, w1, n10, if_false, show wI 3 = 3 from rfl, sp_in M hk i1 i5, b2_t h2, Int.reduceAdd, Int.reduceEq, if_true, s2, b2_t c, I.d0]
        split <;> rfl
    · refine st_same I (v := (wI (du_ M 0 i (M 14 1) + du_ M 1 i (M 14 1))).tdiv 2) (w := (wI (du_ M 0 i (M 14 1) + du_ M 1 i (M 14 1))).tdiv 2) ?_ ?_ rfl
      · simp only [X_X8_mark_0, sp_has_11 hG hi, b2_t h1, ob, w1, n10, if_false, show wI 4 = 4 from rfl, Int.reduceLT, Int.reduceAdd, Int.reduceEq, if_true, s1, b2_t c, c0]
      · simp only [X_X9_mark_53, sp_isStrip hs hi, b2_t hi1, ob, w1, n10, if_false, show wI 4 = 4 from rfl, sp_in M hk i1 i5, b2_t h2, Int.reduceAdd, Int.reduceEq, if_true, s2, b2_t c, m0]
    · refine st_same I (v := du_ M 0 i (M 14 1) + du_ M 1 i (M 14 1)) (w := du_ M 0 i (M 14 1) + du_ M 1 i (M 14 1)) ?_ ?_ rfl
      · simp only [X_X8_mark_0, sp_has_11 hG hi, b2_t h1, ob, w1, n10, if_false, show wI 5 = 5 from rfl, Int.reduceLT, Int.reduceAdd, Int.reduceEq, if_true, s1, b2_t c, c0]
      · simp only [X_X9_mark_53, sp_isStrip hs hi, b2_t hi1, ob, w1, n10, if_false, show wI 5 = 5 from rfl, sp_in M hk i1 i5, b2_t h2, Int.reduceAdd, Int.reduceEq, s2, b2_t c, m0]
  · refine st_find I (f := 3) ?_ ?_
    · simp (disch := omega) only [X_X8_mark_0, sp_has_11 hG hi, b2_t h1, ob, w1, n10, if_false, wI_R hk, if_pos, s1, b2_f c, wI_0, if_true, f_c3]
    · have hs' : 0 ≤ (cF 3 M) 53 1 ∧ (cF 3 M) 53 1 ≤ 12 := hs
      have hG' : GdM (cF 3 M) := I.gM
      have s3 := sp_isOf_53 hG' hi1 h2
      have s4 : X_X9_isOf_53 i k (cF 3 M) = some (b2 (isk (M 12 i.toNat) k), cF 3 M) := by
        rw [s3]
        show some (b2 (isk (M 55 i.toNat) k), cF 3 M) = _
        rw [kd]
      simp (disch := omega) only [X_X9_mark_53, sp_isStrip hs' hi, b2_t (show 0 ≤ i ∧ i < (cF 3 M) 53 1 from hi1), ob, w1, n10, if_false, wI_R hk, sp_in _ hk i1 i5, b2_t h2, s4, b2_f c, wI_0, if_true, f_m3]
/-! what all strips would pay -/
noncomputable def dC_ (M : am_M) (c b : Int) : Int := sf (fun j => du_ M c j b) 0 (M 11 0).toNat
theorem lp_dc0 (k : Int → am_M → am_Rs) {M : am_M} (I : Ib M) (b : Int) (hb : 0 ≤ b ∧ b ≤ 12) : ∀ (d n : Nat) (acc : Int) (i : Nat), (i : Int) + d = M 11 0 → d < n → XL_X1_dueToCrown_14_11_1 k n 0 b acc i M = k (acc + sf (fun j => du_ M 0 j b) i d) M
  | 0, n + 1, acc, i, hi, hn => by
    have hh := I.rs
    simp (disch := omega) only [XL_X1_dueToCrown_14_11_1, XB_X1_dueToCrown_14_11_1, wI_of (x := (i : Int)), wI_of (x := M 11 0), if_neg, sf, Int.add_zero]
  | d + 1, n + 1, acc, i, hi, hn => by
    have hh := I.rs
    have ih := lp_dc0 k I b hb d n (acc + du_ M 0 i b) (i + 1) (by push_cast; omega) (by omega)
    rw [XL_X1_dueToCrown_14_11_1, XB_X1_dueToCrown_14_11_1, wI_of (x := (i : Int)) (by omega) (by omega), wI_of (x := M 11 0) (by omega) (by omega), if_pos (by omega), X_X1_rateOf_14, wI_0, if_pos rfl, ob]
    dsimp only
    rw [c_due0 I (by omega) hb, ob]
    simp only [sf]
    rw [← Int.add_assoc]
    exact ih
theorem lp_dc1 (k : Int → am_M → am_Rs) {M : am_M} (I : Ib M) (b : Int) (hb : 0 ≤ b ∧ b ≤ 12) : ∀ (d n : Nat) (acc : Int) (i : Nat), (i : Int) + d = M 11 0 → d < n → XL_X1_dueToCrown_14_11_1 k n 1 b acc i M = k (acc + sf (fun j => du_ M 1 j b) i d) M
  | 0, n + 1, acc, i, hi, hn => by
    have hh := I.rs
    simp (disch := omega) only [XL_X1_dueToCrown_14_11_1, XB_X1_dueToCrown_14_11_1, wI_of (x := (i : Int)), wI_of (x := M 11 0), if_neg, sf, Int.add_zero]
  | d + 1, n + 1, acc, i, hi, hn => by
    have hh := I.rs
    have ih := lp_dc1 k I b hb d n (acc + du_ M 1 i b) (i + 1) (by push_cast; omega) (by omega)
    rw [XL_X1_dueToCrown_14_11_1, XB_X1_dueToCrown_14_11_1, wI_of (x := (i : Int)) (by omega) (by omega), wI_of (x := M 11 0) (by omega) (by omega), if_pos (by omega), X_X1_rateOf_14, w1, if_neg (by decide), ob]
    dsimp only
    rw [c_due1 I (by omega) hb, ob]
    simp only [sf]
    rw [← Int.add_assoc]
    exact ih
theorem sp_dc {M : am_M} (I : Ib M) {c b : Int} (hc : c = 0 ∨ c = 1) (hb : 0 ≤ b ∧ b ≤ 12) : X_X1_dueToCrown_14_11 c b M = some (dC_ M c b, M) := by
  have hh := I.rs
  rw [X_X1_dueToCrown_14_11, XB_X1_dueToCrown_14_11_e]
  rcases hc with rfl | rfl
  · have := lp_dc0 XB_X1_dueToCrown_14_11_3 I b hb (M 11 0).toNat 1000 0 0 (by omega) (by omega)
    rw [show ((0 : Nat) : Int) = 0 from rfl, Int.zero_add] at this
    rw [this]; rfl
  · have := lp_dc1 XB_X1_dueToCrown_14_11_3 I b hb (M 11 0).toNat 1000 0 0 (by omega) (by omega)
    rw [show ((0 : Nat) : Int) = 0 from rfl, Int.zero_add] at this
    rw [this]; rfl
theorem lp_nowM (k : Int → am_M → am_Rs) {M N : am_M} (I : Inv M) (hN : ∀ c, c ≠ 0 → c ≠ 53 → N c = M c) (h53 : ∀ j, j ≠ 8 → N 53 j = M 53 j) : ∀ (d n : Nat) (a0 a1 : Int) (i : Nat), (i : Int) + d = M 11 0 → d < n → XL_X9_now_53_3 k n a0 i (am_up N 53 8 a1) = k (a0 + sf (fun j => du_ M 0 j (M 14 1)) i d) (am_up N 53 8 (a1 + sf (fun j => du_ M 1 j (M 14 1)) i d))
  | 0, n + 1, a0, a1, i, hi, hn => by
    have hh := I.rs
    have es : (am_up N 53 8 a1) 53 1 = M 11 0 := by rw [up_j (by decide), h53 1 (by decide), I.es]
    rw [XL_X9_now_53_3, XB_X9_now_53_3, es, wI_of (x := (i : Int)) (by omega) (by omega), wI_of (x := M 11 0) (by omega) (by omega), if_neg (by omega)]
    simp only [sf, Int.add_zero]
  | d + 1, n + 1, a0, a1, i, hi, hn => by
    have hh := I.rs
    have hb := I.r1
    have ih := lp_nowM k I hN h53 d n (a0 + du_ M 0 i (M 14 1)) (a1 + du_ M 1 i (M 14 1)) (i + 1) (by push_cast; omega) (by omega)
    have es : (am_up N 53 8 a1) 53 1 = M 11 0 := by rw [up_j (by decide), h53 1 (by decide), I.es]
    have g : ∀ c, c ≠ 0 → c ≠ 53 → (am_up N 53 8 a1) c = M c := fun c q0 q => by rw [up_a q, hN c q0 q]
    have gG : GdM (am_up N 53 8 a1) := by unfold GdM; rw [es, g 55 (by decide) (by decide), g 56 (by decide) (by decide)]; exact ⟨hh.1, hh.2, I.gM.2.2.1, I.gM.2.2.2⟩
    have p0 : X_X9_paysTo_53 i 0 (M 14 1) (M 14 2) (am_up N 53 8 a1) = some (du_ M 0 i (M 14 1), am_up N 53 8 a1) := by
      rw [sp_paysTo gG (by decide) (by omega) (by omega) I.r2, g 55 (by decide) (by decide), g 56 (by decide) (by decide), due_c (I.kd (by omega)) (I.du (by omega))]; rfl
    have p1 : X_X9_paysTo_53 i 1 (M 14 1) (M 14 3) (am_up N 53 8 a1) = some (du_ M 1 i (M 14 1), am_up N 53 8 a1) := by
      rw [sp_paysTo gG (by decide) (by omega) (by omega) I.r3, g 55 (by decide) (by decide), g 56 (by decide) (by decide), due_c (I.kd (by omega)) (I.du (by omega))]; rfl
    rw [XL_X9_now_53_3, XB_X9_now_53_3, es, wI_of (x := (i : Int)) (by omega) (by omega), wI_of (x := M 11 0) (by omega) (by omega), if_pos (by omega), g 54 (by decide) (by decide), I.d1, I.d2, p0, ob]
    dsimp only
    rw [g 54 (by decide) (by decide), I.d1, I.d3, p1, ob]
    dsimp only
    rw [up_s, show am_up (am_up N 53 8 a1) 53 8 (a1 + du_ M 1 i (M 14 1)) = am_up N 53 8 (a1 + du_ M 1 i (M 14 1)) by
      rw [up_row, up_row, row_row, up_row]
      refine congrArg (am_row N 53) (funext fun j => ?_)
      simp only [row_s]
      split <;> rfl]
    simp only [sf]
    rw [← Int.add_assoc, ← Int.add_assoc]
    exact ih
theorem eq_now {M : am_M} (I : Inv M) : Step X_X8_now_0 X_X9_now_53 M := gd_now I fun h => by
  have hG := I.g11
  have rs := I.rs
  have r1 := I.r1
  have hc : X_X8_now_0 M = some (dC_ M 0 (M 14 1), cT (dC_ M 1 (M 14 1)) M) := by
    rw [X_X8_now_0, sp_hasNoLand hG, b2_f h, ob]
    dsimp only
    rw [if_pos wI_0, sp_dc I.b (Or.inr rfl) (by omega), ob]
    dsimp only
    rw [sp_tell_0, ob]
    dsimp only
    have e2 : X_X1_dueToCrown_14_11 0 (M 14 1) (cT (dC_ M 1 (M 14 1)) M) = some (dC_ M 0 (M 14 1), cT (dC_ M 1 (M 14 1)) M) := sp_dc (Kb.ib I.b (Kb.ct M _)) (Or.inl rfl) (by omega)
    rw [show (cT (dC_ M 1 (M 14 1)) M) 14 1 = M 14 1 from rfl, e2, ob]
  have lm := lp_nowM XB_X9_now_53_5 (M := M) (N := cT (dC_ M 1 (M 14 1)) M) I (fun c q0 q => up_a q0) (fun j _ => rfl) (M 11 0).toNat 1000 0 0 0 (by omega) (by omega)
  rw [show ((0 : Nat) : Int) = 0 from rfl, Int.zero_add, Int.zero_add] at lm
  have hm : X_X9_now_53 (cT (dC_ M 1 (M 14 1)) M) = some (dC_ M 0 (M 14 1), mT (dC_ M 1 (M 14 1)) (cT (dC_ M 1 (M 14 1)) M)) := by
    rw [X_X9_now_53, XB_X9_now_53_e, show (cT (dC_ M 1 (M 14 1)) M) 53 1 = M 11 0 from I.es, wI_of (x := M 11 0) (by omega) (by omega), if_neg h, lm]; rfl
  exact ⟨_, _, _, _, hc, hm, rfl, inv_tell I _⟩
/-! moves that can be -/
theorem mvC (k : Int → am_M → am_Rs) {M : am_M} (n : Nat) (v m x : Int) (hm : ¬ 1 < wI m) (hx : X_X2_rudeness_11 (M 14 1) m (M 14 0) M = some (x, M)) (wx : wI x = x) : XL_X8_moves_0_3 k (n + 1) v m M = XL_X8_moves_0_3 k n (if x < 0 then v else b_or_ v (b_shl_ 1 (m + 1))) (m + 1) M := by
  rw [XL_X8_moves_0_3, XB_X8_moves_0_3, if_neg hm, hx, ob]
  dsimp only
  rw [wx]
  split <;> rfl
theorem mvM (k : Int → am_M → am_Rs) {M : am_M} (n : Nat) (v m x : Int) (hm : wI m < 2) (hx : X_X9_canBe_53 (M 54 1) (M 54 0) m M = some (b2 (x ≠ -1), M)) : XL_X9_moves_53_3 k (n + 1) v m M = XL_X9_moves_53_3 k n (b_or_ v (if x = -1 then 0 else b_shl_ 1 (m + 1))) (m + 1) M := by
  rw [XL_X9_moves_53_3, XB_X9_moves_53_3, if_pos hm, hx, ob]
  dsimp only
  by_cases c : x = -1
  · rw [b2_f (fun q => q c), if_pos wI_0, if_pos c]
  · rw [b2_t c, if_neg (by decide), if_neg c]
theorem eq_moves {M : am_M} (I : Inv M) : Step X_X8_moves_0 X_X9_moves_53 M := gd_moves I fun h => by
  have hG := I.g11
  have rs := I.rs
  have r0 := I.r0
  have r1 := I.r1
  have c1 := c_rud I.b (b := M 14 1) (m := -1) (d := M 14 0) r1 (by decide) (by omega)
  have c2 := c_rud I.b (b := M 14 1) (m := 0) (d := M 14 0) r1 (by decide) (by omega)
  have c3 := c_rud I.b (b := M 14 1) (m := 1) (d := M 14 0) r1 (by decide) (by omega)
  have m1 := m_can I.b (b := M 14 1) (m := -1) (d := M 14 0) r1 (by decide) (by omega)
  have m2 := m_can I.b (b := M 14 1) (m := 0) (d := M 14 0) r1 (by decide) (by omega)
  have m3 := m_can I.b (b := M 14 1) (m := 1) (d := M 14 0) r1 (by decide) (by omega)
  have q1 := mv_r M (M 14 1) (-1) (M 14 0)
  have q3 := mv_r M (M 14 1) 1 (M 14 0)
  rw [mv_0] at c2 m2
  generalize mv_ M (M 14 1) (-1) (M 14 0) = x1 at c1 m1 q1
  generalize mv_ M (M 14 1) 1 (M 14 0) = x3 at c3 m3 q3
  have hs : wI (M 53 1) ≠ 0 := by rw [I.es, wI_of (by omega) (by omega)]; exact h
  have e1 : XL_X8_moves_0_3 XB_X8_moves_0_7 1000 0 (-1) M = _ := mvC _ 999 0 (-1) x1 (by decide) c1 (wI_of (by omega) (by omega))
  have e2 : XL_X8_moves_0_3 XB_X8_moves_0_7 999 (if x1 < 0 then 0 else b_or_ 0 (b_shl_ 1 (-1 + 1))) (-1 + 1) M = _ := mvC _ 998 _ (-1 + 1) 0 (by decide) c2 rfl
  have e3 : XL_X8_moves_0_3 XB_X8_moves_0_7 998 (if (0 : Int) < 0 then (if x1 < 0 then 0 else b_or_ 0 (b_shl_ 1 (-1 + 1))) else b_or_ (if x1 < 0 then 0 else b_or_ 0 (b_shl_ 1 (-1 + 1))) (b_shl_ 1 (-1 + 1 + 1))) (-1 + 1 + 1) M = _ := mvC _ 997 _ (-1 + 1 + 1) x3 (by decide) c3 (wI_of (by omega) (by omega))
  rw [I.d0.symm, I.d1.symm] at m1 m2 m3
  have f1 : XL_X9_moves_53_3 XB_X9_moves_53_8 1000 0 (-1) M = _ := mvM _ 999 0 (-1) x1 (by decide) m1
  have f2 : XL_X9_moves_53_3 XB_X9_moves_53_8 999 (b_or_ 0 (if x1 = -1 then 0 else b_shl_ 1 (-1 + 1))) (-1 + 1) M = _ := mvM _ 998 _ (-1 + 1) 0 (by decide) m2
  have f3 : XL_X9_moves_53_3 XB_X9_moves_53_8 998 (b_or_ (b_or_ 0 (if x1 = -1 then 0 else b_shl_ 1 (-1 + 1))) (if (0 : Int) = -1 then 0 else b_shl_ 1 (-1 + 1 + 1))) (-1 + 1 + 1) M = _ := mvM _ 997 _ (-1 + 1 + 1) x3 (by decide) m3
  have hc : X_X8_moves_0 M = some (if x3 < 0 then (if (0 : Int) < 0 then (if x1 < 0 then 0 else b_or_ 0 (b_shl_ 1 (-1 + 1))) else b_or_ (if x1 < 0 then 0 else b_or_ 0 (b_shl_ 1 (-1 + 1))) (b_shl_ 1 (-1 + 1 + 1))) else b_or_ (if (0 : Int) < 0 then (if x1 < 0 then 0 else b_or_ 0 (b_shl_ 1 (-1 + 1))) else b_or_ (if x1 < 0 then 0 else b_or_ 0 (b_shl_ 1 (-1 + 1))) (b_shl_ 1 (-1 + 1 + 1))) (b_shl_ 1 (-1 + 1 + 1 + 1)), M) := by
    rw [X_X8_moves_0, XB_X8_moves_0_e, sp_hasNoLand hG, b2_f h, ob]
    dsimp only
    rw [if_pos wI_0, e1, e2, e3, XL_X8_moves_0_3, XB_X8_moves_0_3, if_pos (by decide), XB_X8_moves_0_7]
  have hm : X_X9_moves_53 M = some (b_or_ (b_or_ (b_or_ 0 (if x1 = -1 then 0 else b_shl_ 1 (-1 + 1))) (if (0 : Int) = -1 then 0 else b_shl_ 1 (-1 + 1 + 1))) (if x3 = -1 then 0 else b_shl_ 1 (-1 + 1 + 1 + 1)), M) := by
    rw [X_X9_moves_53, XB_X9_moves_53_e, if_neg hs, f1, f2, f3, XL_X9_moves_53_3, XB_X9_moves_53_3, if_neg (by decide), XB_X9_moves_53_8]
  refine st_same I hc hm ?_
  by_cases a1 : x1 = -1
  · by_cases a3 : x3 = -1
    · subst a1; subst a3; decide
    · rw [if_neg (show ¬ x3 < 0 by omega), if_neg a3]; subst a1; decide
  · by_cases a3 : x3 = -1
    · rw [if_neg (show ¬ x1 < 0 by omega), if_neg a1]; subst a3; decide
    · rw [if_neg (show ¬ x1 < 0 by omega), if_neg a1, if_neg (show ¬ x3 < 0 by omega), if_neg a3]; decide
/-! which law holds: the answers differ beyond day 40; both sides return and keep the invariant -/
theorem go_law {M : am_M} (I : Inv M) {i d : Int} (hi : iR i) (hd : iR d) : Go (X_X8_law_0 i d) (X_X9_law_53 i d) M := by
  have hG := I.g11
  have rs := I.rs
  have r0 := I.r0
  have es := I.es
  have hs : 0 ≤ M 53 1 ∧ M 53 1 ≤ 12 := ⟨I.gM.1, I.gM.2.1⟩
  have hM : ∀ (i d : Int), iR i → iR d → ∃ w M2, X_X9_law_53 i d M = some (w, M2) ∧ Inv M2 := by
    intro i d hi hd
    by_cases c0 : 0 ≤ i ∧ i < M 11 0
    · by_cases c1 : d < 0
      · refine ⟨-1, M, ?_, I⟩
        simp only [X_X9_law_53, sp_isStrip hs hi, es, b2_t c0, ob, w1, n10, if_false, wI_R hd, if_pos c1]
      · by_cases c2 : M 14 0 < d
        · refine ⟨-4, M, ?_, I⟩
          simp (disch := omega) only [X_X9_law_53, sp_isStrip hs hi, es, b2_t c0, ob, w1, n10, if_false, wI_R hd, I.d0, wI_of (x := M 14 0), if_neg c1, if_pos c2]
        · obtain ⟨n, rfl⟩ := Int.eq_ofNat_of_zero_le (show 0 ≤ d by omega)
          obtain ⟨M2, e1, k2⟩ := sp_lain I (n := n) (by omega)
          have I2 := Kp.inv I k2
          have h17 := I.2.2.2.2.1.2.2.1.2.2.1 n
          have k55 := I2.gM.2.2.1 i.toNat
          have ta := sp_isAt (b := M 17 n) (i := i) M2 (by unfold iR; omega) hi (by unfold iR; omega)
          have start : X_X9_law_53 i n M = (if wI (M2 55 i.toNat) = 5 then (X_X9_isAt (M 17 n) i M2).bind fun z3 => if wI z3.1 = 0 then (if i < wI (M 17 n) then some (1, z3.2) else some (2, z3.2)) else some (3, z3.2) else if i < wI (M 17 n) then some (1, M2) else some (2, M2)) := by
            simp (disch := omega) only [X_X9_law_53, sp_isStrip hs hi, es, b2_t c0, ob, w1, n10, if_false, wI_R hd, wI_R hi, I.d0, wI_of (x := M 14 0), if_neg, e1, if_pos]
          rw [start, ta, ob]
          dsimp only
          repeat' split
          all_goals exact ⟨_, _, rfl, I2⟩
    · refine ⟨-1, M, ?_, I⟩
      simp only [X_X9_law_53, sp_isStrip hs hi, es, b2_f c0, ob, wI_0, if_true]
  obtain ⟨w, M2, e2, I2⟩ := hM i d hi hd
  have hC : ∃ v, X_X8_law_0 i d M = some (v, M) := by
    by_cases c0 : 0 ≤ i ∧ i < M 11 0
    · by_cases c1 : d < 0
      · refine ⟨-1, ?_⟩
        simp only [X_X8_law_0, sp_has_11 hG hi, b2_t c0, ob, w1, n10, if_false, wI_R hd, if_pos c1]
      · by_cases c3 : 40 < d
        · refine ⟨-1, ?_⟩
          simp only [X_X8_law_0, sp_has_11 hG hi, b2_t c0, ob, w1, n10, if_false, wI_R hd, if_neg c1, if_pos c3]
        · by_cases c2 : M 14 0 < d
          · refine ⟨-4, ?_⟩
            simp (disch := omega) only [X_X8_law_0, sp_has_11 hG hi, b2_t c0, ob, w1, n10, if_false, wI_R hd, wI_of (x := M 14 0), if_neg c1, if_neg c3, if_pos c2]
          · obtain ⟨n, rfl⟩ := Int.eq_ofNat_of_zero_le (show 0 ≤ d by omega)
            have h17 := I.2.2.2.2.1.2.2.1.2.2.1 n
            have tt := sp_touches i (M 17 n) M hi (by unfold iR; omega) (by unfold iR; omega)
            have cc := sp_crownOf i (M 17 n) M hi (by unfold iR; omega)
            simp (disch := omega) only [X_X8_law_0, sp_has_11 hG hi, b2_t c0, ob, w1, n10, if_false, wI_R hd, wI_of (x := M 14 0), if_neg, sp_ahead I (n := n) (show (n : Int) ≤ M 14 0 by omega), sp_isOf_11 hG c0 (show (1 : Int) ≤ 5 ∧ (5 : Int) ≤ 5 by decide), tt, cc]
            repeat' split
            all_goals exact ⟨_, rfl⟩
    · refine ⟨-1, ?_⟩
      simp only [X_X8_law_0, sp_has_11 hG hi, b2_f c0, ob, wI_0, if_true]
  obtain ⟨v, e1⟩ := hC
  exact ⟨v, w, M, M2, e1, e2, I2⟩
end
section
/-! Rows of moves: judged, their rudeness, what a strip pays by them. -/
noncomputable def rw_ (M : am_M) (r : Nat) (j : Nat) : Int := M 3 (40 * r + j)
theorem c_size {M : am_M} (I : Ib M) {r : Nat} (hr : r < 6) : X_X6_sizeOf_1 r M = some (M 2 r, M) := by
  rw [sp_sizeOf_1 I.sh1 (by unfold iR; omega), if_pos (by omega), Int.toNat_natCast]
theorem c_get {M : am_M} (I : Ib M) {r i : Nat} (hr : r < 6) (hi : (i : Int) < M 2 r) : X_X6_get_1 r i M = some (rw_ M r i, M) := by
  have := I.2.1.2.1 r
  rw [sp_get_1 I.sh1 (by omega) (by unfold iR; omega), Int.toNat_natCast, if_pos (by omega), show ((40 : Int) * r + i).toNat = 40 * r + i by omega]; rfl
theorem m_row {M : am_M} (I : Ib M) {r i : Nat} (hr : r < 6) (hi : (i : Int) < M 2 r) : M 58 (40 * r + i) = rw_ M r i := I.2.1.2.2.2 r i hr hi
theorem rw_R {M : am_M} (I : Ib M) (r i : Nat) : iR (rw_ M r i) := I.2.1.2.2.1 _
noncomputable def wm_ (M : am_M) (r j : Nat) : Prop := -1 ≤ rw_ M r j ∧ rw_ M r j ≤ 1
theorem lp_all1 (k4 k6 : am_M → am_Rs) {M : am_M} (I : Ib M) {r : Nat} (hr : r < 6) : ∀ (e n i : Nat), (i : Int) + e = M 2 r → e < n → (∀ j, i ≤ j → j < i + e → wm_ M r j) → XL_X6_isAllWithin_1_1 k4 k6 n r (-1) 1 i M = k6 M
  | 0, n + 1, i, hi, hn, h => by
    have hs := I.2.1.2.1 r
    rw [XL_X6_isAllWithin_1_1, XB_X6_isAllWithin_1_1, c_size I hr, ob]
    dsimp +instances only
    rw [wI_of (x := (i : Int)) (by omega) (by omega), wI_of (x := M 2 r) (by omega) (by omega), if_neg (by omega)]
  | e + 1, n + 1, i, hi, hn, h => by
    have hs := I.2.1.2.1 r
    have q := h i (by omega) (by omega)
    unfold wm_ at q
    have ih := lp_all1 k4 k6 I hr e n (i + 1) (by push_cast; omega) (by omega) (fun j h1 h2 => h j (by omega) (by omega))
    rw [XL_X6_isAllWithin_1_1, XB_X6_isAllWithin_1_1, c_size I hr, ob]
    dsimp +instances only
    rw [wI_of (x := (i : Int)) (by omega) (by omega), wI_of (x := M 2 r) (by omega) (by omega), if_pos (by omega), c_get I hr (by omega), ob]
    dsimp +instances only
    rw [wI_of (x := rw_ M r i) (by omega) (by omega), wm1, w1, if_neg (by omega), if_neg (by omega)]
    exact ih
theorem lp_all0 (k4 k6 : am_M → am_Rs) {M : am_M} (I : Ib M) {r : Nat} (hr : r < 6) : ∀ (e n i : Nat), (i : Int) + e = M 2 r → e < n → (∃ j, i ≤ j ∧ j < i + e ∧ ¬ wm_ M r j) → XL_X6_isAllWithin_1_1 k4 k6 n r (-1) 1 i M = k4 M
  | 0, n + 1, i, hi, hn, h => by obtain ⟨j, h1, h2, -⟩ := h; omega
  | e + 1, n + 1, i, hi, hn, h => by
    have hs := I.2.1.2.1 r
    rw [XL_X6_isAllWithin_1_1, XB_X6_isAllWithin_1_1, c_size I hr, ob]
    dsimp +instances only
    rw [wI_of (x := (i : Int)) (by omega) (by omega), wI_of (x := M 2 r) (by omega) (by omega), if_pos (by omega), c_get I hr (by omega), ob]
    dsimp +instances only
    rw [wI_R (rw_R I r i), wm1, w1]
    by_cases c : wm_ M r i
    · have q := c
      unfold wm_ at q
      have ih := lp_all0 k4 k6 I hr e n (i + 1) (by push_cast; omega) (by omega) (by
        obtain ⟨j, h1, h2, h3⟩ := h
        refine ⟨j, ?_, by omega, h3⟩
        rcases Nat.lt_or_eq_of_le h1 with h4 | h4
        · exact h4
        · subst h4; exact absurd c h3)
      rw [if_neg (by omega), if_neg (by omega)]
      exact ih
    · unfold wm_ at c
      by_cases c2 : rw_ M r i < -1
      · rw [if_pos c2]
      · rw [if_neg c2, if_pos (by omega)]
theorem sp_within {M : am_M} (I : Ib M) {r : Nat} (hr : r < 6) (h0 : 0 ≤ M 2 r) : ((∀ j : Nat, (j : Int) < M 2 r → wm_ M r j) → X_X6_isAllWithin_1 r (-1) 1 M = some (1, M)) ∧ (¬ (∀ j : Nat, (j : Int) < M 2 r → wm_ M r j) → X_X6_isAllWithin_1 r (-1) 1 M = some (0, M)) := by
  have hs := I.2.1.2.1 r
  rw [X_X6_isAllWithin_1, XB_X6_isAllWithin_1_e]
  constructor
  · intro h
    have := lp_all1 XB_X6_isAllWithin_1_4 XB_X6_isAllWithin_1_6 I hr (M 2 r).toNat 1000 0 (by omega) (by omega) (fun j _ h2 => h j (by omega))
    rw [show ((0 : Nat) : Int) = 0 from rfl] at this
    rw [this]; rfl
  · intro h
    have := lp_all0 XB_X6_isAllWithin_1_4 XB_X6_isAllWithin_1_6 I hr (M 2 r).toNat 1000 0 (by omega) (by omega) (by
      obtain ⟨j, hj⟩ := Classical.not_forall.mp h
      obtain ⟨h1, h2⟩ := Classical.not_imp.mp hj
      exact ⟨j, by omega, by omega, h2⟩)
    rw [show ((0 : Nat) : Int) = 0 from rfl] at this
    rw [this]; rfl
theorem lp_am (k : Int → am_M → am_Rs) {M : am_M} (I : Ib M) {r : Nat} (hr : r < 6) : ∀ (e n i : Nat) (v : Int), (v = 0 ∨ v = 1) → (i : Int) + e = M 2 r → e < n → ((v = 1 ∧ ∀ j, i ≤ j → j < i + e → wm_ M r j) → XL_X9_areMoves_53_1 k n r v i M = k 1 M) ∧ (¬ (v = 1 ∧ ∀ j, i ≤ j → j < i + e → wm_ M r j) → XL_X9_areMoves_53_1 k n r v i M = k 0 M)
  | 0, n + 1, i, v, hv, hi, hn => by
    have hs := I.2.1.2.1 r
    have e0 : XL_X9_areMoves_53_1 k (n + 1) r v i M = k v M := by
      rw [XL_X9_areMoves_53_1, XB_X9_areMoves_53_1, wI_of (x := (r : Int)) (by omega) (by omega), if_pos (by omega), Int.toNat_natCast, I.2.1.1, wI_of (x := (i : Int)) (by omega) (by omega), wI_of (x := M 2 r) (by omega) (by omega), if_neg (by omega)]
    rw [e0]
    constructor
    · intro h; rw [h.1]
    · intro h
      rcases hv with rfl | rfl
      · rfl
      · exact absurd ⟨rfl, fun j h1 h2 => by omega⟩ h
  | e + 1, n + 1, i, v, hv, hi, hn => by
    have hs := I.2.1.2.1 r
    have e1 : ∀ _ : Unit, wI (40 * (r : Int) + i) = ((40 * r + i : Nat) : Int) := fun _ => by rw [wI_of (by omega) (by omega)]; push_cast; omega
    have st : XL_X9_areMoves_53_1 k (n + 1) r v i M = if wI v = 0 then XL_X9_areMoves_53_1 k n r 0 ((i + 1 : Nat) : Int) M else XL_X9_areMoves_53_1 k n r (b2 (-1 ≤ rw_ M r i ∧ rw_ M r i ≤ 1)) ((i + 1 : Nat) : Int) M := by
      rw [XL_X9_areMoves_53_1, XB_X9_areMoves_53_1, wI_of (x := (r : Int)) (by omega) (by omega), if_pos (by omega), Int.toNat_natCast, I.2.1.1, wI_of (x := (i : Int)) (by omega) (by omega), wI_of (x := M 2 r) (by omega) (by omega), if_pos (by omega), e1 (), Int.toNat_natCast, m_row I hr (by omega), wI_R (rw_R I r i), sp_in M (rw_R I r i) (by unfold iR; omega) i1, ob]
      dsimp +instances only
      by_cases cv : wI v = 0
      · rw [if_pos cv, if_pos cv]; rfl
      · rw [if_neg cv, if_neg cv, if_pos (by omega)]
        by_cases cw : -1 ≤ rw_ M r i ∧ rw_ M r i ≤ 1
        · rw [if_neg (show ¬ wI (b2 (-1 ≤ rw_ M r i ∧ rw_ M r i ≤ 1)) = 0 by rw [b2_t cw]; decide), b2_t cw]; rfl
        · rw [if_pos (show wI (b2 (-1 ≤ rw_ M r i ∧ rw_ M r i ≤ 1)) = 0 by rw [b2_f cw]; rfl), b2_f cw]; rfl
    rw [st]
    rcases hv with rfl | rfl
    · rw [if_pos wI_0]
      have ih := lp_am k I hr e n (i + 1) 0 (Or.inl rfl) (by push_cast; omega) (by omega)
      have := ih.2 (fun q => absurd q.1 (by decide))
      exact ⟨fun q => absurd q.1 (by decide), fun _ => this⟩
    · rw [if_neg (by decide)]
      by_cases cw : -1 ≤ rw_ M r i ∧ rw_ M r i ≤ 1
      · rw [b2_t cw]
        have ih := lp_am k I hr e n (i + 1) 1 (Or.inr rfl) (by push_cast; omega) (by omega)
        constructor
        · intro q
          exact ih.1 ⟨rfl, fun j h1 h2 => q.2 j (by omega) (by omega)⟩
        · intro q
          refine ih.2 (fun q2 => q ⟨rfl, fun j h1 h2 => ?_⟩)
          rcases Nat.lt_or_eq_of_le h1 with h4 | h4
          · exact q2.2 j (by omega) (by omega)
          · subst h4; exact cw
      · rw [b2_f cw]
        have ih := lp_am k I hr e n (i + 1) 0 (Or.inl rfl) (by push_cast; omega) (by omega)
        have := ih.2 (fun q => absurd q.1 (by decide))
        exact ⟨fun q => absurd (q.2 i (by omega) (by omega)) cw, fun _ => this⟩
theorem sp_areMoves {M : am_M} (I : Ib M) {r : Nat} (hr : r < 6) (h0 : 0 ≤ M 2 r) : ((∀ j : Nat, (j : Int) < M 2 r → wm_ M r j) → X_X9_areMoves_53 r M = some (1, M)) ∧ (¬ (∀ j : Nat, (j : Int) < M 2 r → wm_ M r j) → X_X9_areMoves_53 r M = some (0, M)) := by
  have hs := I.2.1.2.1 r
  rw [X_X9_areMoves_53, XB_X9_areMoves_53_e]
  have := lp_am XB_X9_areMoves_53_7 I hr (M 2 r).toNat 1000 0 1 (Or.inr rfl) (by omega) (by omega)
  rw [show ((0 : Nat) : Int) = 0 from rfl] at this
  constructor
  · intro h
    rw [this.1 ⟨rfl, fun j _ h2 => h j (by omega)⟩]; rfl
  · intro h
    rw [this.2 (fun q => h (fun j hj => q.2 j (by omega) (by omega)))]; rfl
/-! going along a row of moves: where it stops, where the border is then, how rude it was -/
noncomputable def wF (mv : Int → Int → Int → Int) (f : Nat → Int) (d : Int) : Nat → Nat → Int → Nat
  | 0, i, _ => i
  | e + 1, i, b => if mv b (f i) (d + i) = -1 then i else wF mv f d e (i + 1) (b + f i)
noncomputable def wB_ (mv : Int → Int → Int → Int) (f : Nat → Int) (d : Int) : Nat → Nat → Int → Int
  | 0, _, b => b
  | e + 1, i, b => if mv b (f i) (d + i) = -1 then b else wB_ mv f d e (i + 1) (b + f i)
noncomputable def wR (mv : Int → Int → Int → Int) (f : Nat → Int) (d : Int) : Nat → Nat → Int → Int → Int
  | 0, _, _, a => a
  | e + 1, i, b, a => if mv b (f i) (d + i) = -1 then a else wR mv f d e (i + 1) (b + f i) (a + mv b (f i) (d + i))
theorem wF_r (mv : Int → Int → Int → Int) (f : Nat → Int) (d : Int) : ∀ (e i : Nat) (b : Int), i ≤ wF mv f d e i b ∧ wF mv f d e i b ≤ i + e
  | 0, i, b => by simp [wF]
  | e + 1, i, b => by
    rw [wF]
    split
    · omega
    · have := wF_r mv f d e (i + 1) (b + f i); omega
theorem wB_s (mv : Int → Int → Int → Int) (f : Nat → Int) (d : Int) : ∀ (e i : Nat) (b : Int), wB_ mv f d e i b = b + sf f i (wF mv f d e i b - i)
  | 0, i, b => by simp [wB_, wF, sf]
  | e + 1, i, b => by
    rw [wB_, wF]
    split
    · simp [sf]
    · have := wF_r mv f d e (i + 1) (b + f i)
      rw [wB_s mv f d e (i + 1), show wF mv f d e (i + 1) (b + f i) - i = (wF mv f d e (i + 1) (b + f i) - (i + 1)) + 1 by omega]
      simp only [sf]
      rw [Int.add_assoc]
theorem lp_first (k : Int → am_M → am_Rs) {M : am_M} (I : Ib M) {r : Nat} (hr : r < 6) (hk : k (M 2 r) M = some (M 2 r, M)) : ∀ (e n i : Nat) (b : Int), (0 ≤ b ∧ b ≤ M 11 0) → (i : Int) + e = M 2 r → e < n → (∀ j, i ≤ j → j < i + e → wm_ M r j) → XL_X4_firstThatCannotBe_36_1_1 k n r (M 2 r) b i M = some ((wF (mv_ M) (rw_ M r) (M 14 0) e i b : Int), M)
  | 0, n + 1, i, b, hb, hi, hn, h => by
    have hs := I.2.1.2.1 r
    rw [XL_X4_firstThatCannotBe_36_1_1, XB_X4_firstThatCannotBe_36_1_1, wI_of (x := (i : Int)) (by omega) (by omega), wI_of (x := M 2 r) (by omega) (by omega), if_neg (by omega), hk, wF, ← hi]; rfl
  | e + 1, n + 1, i, b, hb, hi, hn, h => by
    have hs := I.2.1.2.1 r
    have r0 := I.r0
    have rs := I.rs
    have q := h i (by omega) (by omega)
    unfold wm_ at q
    have hv := mv_r M b (rw_ M r i) (M 14 0 + i)
    rw [XL_X4_firstThatCannotBe_36_1_1, XB_X4_firstThatCannotBe_36_1_1, wI_of (x := (i : Int)) (by omega) (by omega), wI_of (x := M 2 r) (by omega) (by omega), if_pos (by omega), c_get I hr (by omega), ob]
    dsimp +instances only
    rw [c_rud I hb q (by omega), ob]
    dsimp +instances only
    rw [wI_of (x := mv_ M b (rw_ M r i) (M 14 0 + i)) (by omega) (by omega), wF]
    by_cases c : mv_ M b (rw_ M r i) (M 14 0 + i) = -1
    · rw [if_pos (by omega), if_pos c]
    · rw [if_neg (by omega), if_neg c]
      exact lp_first k I hr hk e n (i + 1) (b + rw_ M r i) (mv_in (by omega) hb c) (by push_cast; omega) (by omega) (fun j h1 h2 => h j (by omega) (by omega))
theorem sp_first {M : am_M} (I : Ib M) {r : Nat} (hr : r < 6) (h0 : 0 ≤ M 2 r) (h : ∀ j : Nat, (j : Int) < M 2 r → wm_ M r j) : X_X4_firstThatCannotBe_36_1 r M = some ((wF (mv_ M) (rw_ M r) (M 14 0) (M 2 r).toNat 0 (M 14 1) : Int), M) := by
  have hs := I.2.1.2.1 r
  rw [X_X4_firstThatCannotBe_36_1, XB_X4_firstThatCannotBe_36_1_e, c_size I hr, ob]
  dsimp +instances only
  have := lp_first XB_X4_firstThatCannotBe_36_1_5 I hr rfl (M 2 r).toNat 1000 0 (M 14 1) I.r1 (by omega) (by omega) (fun j _ h2 => h j (by omega))
  rw [show ((0 : Nat) : Int) = 0 from rfl] at this
  exact this
theorem lp_bb (k : Int → am_M → am_Rs) {M : am_M} (I : Ib M) {r : Nat} (hr : r < 6) {v : Nat} (hv : (v : Int) ≤ M 2 r) : ∀ (e n i : Nat) (b : Int), i + e = v → e < n → XL_X4_borderBehind_36_1_1 k n r v b i M = k (b + sf (rw_ M r) i e) M
  | 0, n + 1, i, b, hi, hn => by
    have hs := I.2.1.2.1 r
    rw [XL_X4_borderBehind_36_1_1, XB_X4_borderBehind_36_1_1, wI_of (x := (i : Int)) (by omega) (by omega), wI_of (x := (v : Int)) (by omega) (by omega), if_neg (by omega)]
    simp only [sf, Int.add_zero]
  | e + 1, n + 1, i, b, hi, hn => by
    have hs := I.2.1.2.1 r
    have ih := lp_bb k I hr hv e n (i + 1) (b + rw_ M r i) (by omega) (by omega)
    rw [XL_X4_borderBehind_36_1_1, XB_X4_borderBehind_36_1_1, wI_of (x := (i : Int)) (by omega) (by omega), wI_of (x := (v : Int)) (by omega) (by omega), if_pos (by omega), c_get I hr (by omega), ob]
    simp only [sf]
    rw [← Int.add_assoc]
    exact ih
theorem sp_bb {M : am_M} (I : Ib M) {r : Nat} (hr : r < 6) {v : Nat} (hv : (v : Int) ≤ M 2 r) : X_X4_borderBehind_36_1 r v M = some (M 14 1 + sf (rw_ M r) 0 v, M) := by
  have hs := I.2.1.2.1 r
  rw [X_X4_borderBehind_36_1, XB_X4_borderBehind_36_1_e]
  have := lp_bb XB_X4_borderBehind_36_1_3 I hr hv v 1000 0 (M 14 1) (by omega) (by omega)
  rw [show ((0 : Nat) : Int) = 0 from rfl] at this
  rw [this]; rfl
/-- the reference's memory with where it has gone to and how rudely -/
noncomputable def gB (N : am_M) (b a : Int) : am_M := am_up (am_up N 53 19 b) 53 20 a
theorem gB_up (N : am_M) (b a b' a' : Int) : am_up (am_up (gB N b a) 53 19 b') 53 20 a' = gB N b' a' := by
  funext c
  unfold gB
  by_cases hc : c = 53
  · subst hc
    funext j
    by_cases h20 : j = 20
    · subst h20; rw [up_s, up_s]
    · rw [up_j h20, up_j h20]
      by_cases h19 : j = 19
      · subst h19; rw [up_s, up_s]
      · rw [up_j h19, up_j h19, up_j h20, up_j h19]
  · rw [up_a hc, up_a hc, up_a hc, up_a hc, up_a hc, up_a hc]
theorem gB_a {N : am_M} {b a : Int} {c : Nat} (h : c ≠ 53) : gB N b a c = N c := by unfold gB; rw [up_a h, up_a h]
theorem gB_j {N : am_M} {b a : Int} {j : Nat} (h1 : j ≠ 19) (h2 : j ≠ 20) : gB N b a 53 j = N 53 j := by unfold gB; rw [up_j h2, up_j h1]
theorem gB_K (N : am_M) (b a : Int) : Kp N (gB N b a) := (Kp.up53 (by decide)).tr (Kp.up53 (by decide))
theorem inv_find2 {M : am_M} (I : Inv M) (b a : Int) : Inv (mF 3 (gB (cF 3 M) b a)) := by
  have I2 : Inv (mF 3 (cF 3 M)) := inv_find I 3
  refine Kp.inv I2 ⟨fun c hc => ?_, fun j hj => ?_, fun j _ => rfl⟩
  · unfold mF
    by_cases c1 : c = 61
    · subst c1
      funext j
      by_cases c3 : j = 3
      · subst c3; rw [up_s, up_s, gB_a (by decide)]
      · rw [up_j c3, up_j c3, up_a (a := 53) (a' := 61) (by decide), up_a (a := 53) (a' := 61) (by decide), gB_a (by decide)]
    · rw [up_a c1, up_a c1, up_a (by omega), up_a (by omega), gB_a (by omega)]
  · unfold mF
    rw [up_a (a := 61) (a' := 53) (by decide), up_a (a := 61) (a' := 53) (by decide)]
    by_cases cj : j = 11
    · subst cj; rw [up_s, up_s]
    · rw [up_j cj, up_j cj, gB_j (by omega) (by omega)]
theorem lp_along (k : Int → am_M → am_Rs) {M : am_M} (I : Ib M) {r : Nat} (hr : r < 6) (hk : ∀ N : am_M, N 57 = M 57 → k r N = some (M 2 r, N)) : ∀ (e n i : Nat) (b a : Int), (0 ≤ b ∧ b ≤ M 11 0) → (i : Int) + e = M 2 r → e < n → (∀ j, i ≤ j → j < i + e → wm_ M r j) → XL_X9_goAlong_53_1 k n r i (gB M b a) = some ((wF (mv_ M) (rw_ M r) (M 14 0) e i b : Int), gB M (wB_ (mv_ M) (rw_ M r) (M 14 0) e i b) (wR (mv_ M) (rw_ M r) (M 14 0) e i b a))
  | 0, n + 1, i, b, a, hb, hi, hn, h => by
    have hs := I.2.1.2.1 r
    rw [XL_X9_goAlong_53_1, XB_X9_goAlong_53_1, wI_of (x := (r : Int)) (by omega) (by omega), if_pos (by omega), Int.toNat_natCast, gB_a (by decide), I.2.1.1, wI_of (x := (i : Int)) (by omega) (by omega), wI_of (x := M 2 r) (by omega) (by omega), if_neg (by omega), hk _ (gB_a (by decide)), wF, wB_, wR, ← hi]; rfl
  | e + 1, n + 1, i, b, a, hb, hi, hn, h => by
    have hs := I.2.1.2.1 r
    have r0 := I.r0
    have rs := I.rs
    have q := h i (by omega) (by omega)
    unfold wm_ at q
    have hv := mv_r M b (rw_ M r i) (M 14 0 + i)
    have e1 : ∀ _ : Unit, wI (40 * (r : Int) + i) = ((40 * r + i : Nat) : Int) := fun _ => by rw [wI_of (by omega) (by omega)]; push_cast; omega
    have I' : Ib (gB M b a) := Kb.ib I (gB_K M b a).b
    have hm := m_rud I' (b := b) (m := rw_ M r i) (d := M 14 0 + i) hb q (by omega)
    have hmv : mv_ (gB M b a) b (rw_ M r i) (M 14 0 + i) = mv_ M b (rw_ M r i) (M 14 0 + i) := by unfold mv_; rw [gB_a (by decide), gB_a (by decide)]
    rw [hmv] at hm
    have g19 : gB M b a 53 19 = b := by unfold gB; rw [up_j (by decide), up_s]
    have g20 : ∀ x, (am_up (gB M b a) 53 19 x) 53 20 = a := fun x => by unfold gB; rw [up_j (by decide), up_s]
    rw [XL_X9_goAlong_53_1, XB_X9_goAlong_53_1, wI_of (x := (r : Int)) (by omega) (by omega), if_pos (by omega), Int.toNat_natCast]
    simp only [gB_a (show 57 ≠ 53 by decide), gB_a (show 58 ≠ 53 by decide), gB_a (show 54 ≠ 53 by decide), g19, I.d0]
    rw [I.2.1.1, wI_of (x := (i : Int)) (by omega) (by omega), wI_of (x := M 2 r) (by omega) (by omega), if_pos (by omega)]
    simp only [e1 (), Int.toNat_natCast, m_row I hr (show (i : Int) < M 2 r by omega), hm, ob, g19, g20, gB_up]
    rw [if_pos (by omega), wF, wB_, wR]
    unfold mr_
    by_cases c : mv_ M b (rw_ M r i) (M 14 0 + i) = -1
    · rw [if_pos c, if_pos c, if_pos c, if_pos c, if_pos (show wI (-9) = -9 from rfl)]
    · rw [if_neg c, if_neg c, if_neg c, if_neg c, wI_of (x := mv_ M b (rw_ M r i) (M 14 0 + i)) (by omega) (by omega), if_neg (by omega)]
      exact lp_along k I hr hk e n (i + 1) (b + rw_ M r i) (a + mv_ M b (rw_ M r i) (M 14 0 + i)) (mv_in (by omega) hb c) (by push_cast; omega) (by omega) (fun j h1 h2 => h j (by omega) (by omega))
theorem sp_along {M : am_M} (I : Ib M) {r : Nat} (hr : r < 6) (h0 : 0 ≤ M 2 r) (h : ∀ j : Nat, (j : Int) < M 2 r → wm_ M r j) : X_X9_goAlong_53 r M = some ((wF (mv_ M) (rw_ M r) (M 14 0) (M 2 r).toNat 0 (M 14 1) : Int), gB M (wB_ (mv_ M) (rw_ M r) (M 14 0) (M 2 r).toNat 0 (M 14 1)) (wR (mv_ M) (rw_ M r) (M 14 0) (M 2 r).toNat 0 (M 14 1) 0)) := by
  have hs := I.2.1.2.1 r
  rw [X_X9_goAlong_53, XB_X9_goAlong_53_e, I.d1]
  have := lp_along XB_X9_goAlong_53_5 I hr (fun N hN => by rw [XB_X9_goAlong_53_5, wI_of (x := (r : Int)) (by omega) (by omega), if_pos (by omega), Int.toNat_natCast, hN, I.2.1.1]) (M 2 r).toNat 1000 0 (M 14 1) 0 I.r1 (by omega) (by omega) (fun j _ h2 => h j (by omega))
  rw [show ((0 : Nat) : Int) = 0 from rfl] at this
  exact this
theorem eq_judge {M : am_M} (I : Inv M) {r : Int} (hr : iR r) : Step (X_X8_judge_0 r) (X_X9_judge_53 r) M := gd_judge I hr fun h1 h2 h3 => by
  obtain ⟨q, rfl⟩ := Int.eq_ofNat_of_zero_le h1.1
  rw [Int.toNat_natCast] at h3
  have hq : q < 6 := by omega
  have hs := I.2.1.2.1 q
  have rs := I.rs
  have es := I.es
  by_cases c : ∀ j : Nat, (j : Int) < M 2 q → wm_ M q j
  · obtain ⟨F, hF⟩ : ∃ F, F = wF (mv_ M) (rw_ M q) (M 14 0) (M 2 q).toNat 0 (M 14 1) := ⟨_, rfl⟩
    have fr := wF_r (mv_ M) (rw_ M q) (M 14 0) (M 2 q).toNat 0 (M 14 1)
    rw [← hF] at fr
    have fb := wB_s (mv_ M) (rw_ M q) (M 14 0) (M 2 q).toNat 0 (M 14 1)
    rw [← hF, Nat.sub_zero] at fb
    obtain ⟨v, hv⟩ : ∃ v, v = M 14 1 + sf (rw_ M q) 0 F := ⟨_, rfl⟩
    rw [← hv] at fb
    have hc : X_X8_judge_0 q M = some ((F : Int), cT v M) := by
      rw [X_X8_judge_0, sp_isNumber_1 I.sh1 hr, b2_t h1, ob]
      dsimp +instances only
      rw [if_neg (by decide), sp_hasNoLand I.g11, b2_f h2, ob]
      dsimp +instances only
      rw [if_pos wI_0, sp_isThere_1 I.sh1 h1, Int.toNat_natCast, b2_t h3, ob]
      dsimp +instances only
      rw [if_neg (by decide), (sp_within I.b hq h3).1 c, ob]
      dsimp +instances only
      rw [if_neg (by decide), sp_first I.b hq h3 c, ob, ← hF]
      dsimp +instances only
      rw [sp_bb I.b hq (by omega), ob, ← hv]
      dsimp +instances only
      rw [sp_tell_0, ob]
    have B : Ib (cT v M) := Kb.ib I.b (Kb.ct M v)
    have e1 : X_X9_areMoves_53 q (cT v M) = some (1, cT v M) := (sp_areMoves B hq h3).1 c
    have e2 : X_X9_goAlong_53 q (cT v M) = some ((wF (mv_ M) (rw_ M q) (M 14 0) (M 2 q).toNat 0 (M 14 1) : Int), gB (cT v M) (wB_ (mv_ M) (rw_ M q) (M 14 0) (M 2 q).toNat 0 (M 14 1)) (wR (mv_ M) (rw_ M q) (M 14 0) (M 2 q).toNat 0 (M 14 1) 0)) := sp_along B hq h3 c
    rw [← hF, fb] at e2
    generalize wR (mv_ M) (rw_ M q) (M 14 0) (M 2 q).toNat 0 (M 14 1) 0 = a at e2
    have g19 : gB (cT v M) v a 53 19 = v := by unfold gB; rw [up_j (by decide), up_s]
    have hm : X_X9_judge_53 q (cT v M) = some ((F : Int), am_up (gB (cT v M) v a) 53 8 v) := by
      rw [X_X9_judge_53, sp_isRow _ hr, b2_t h1, ob]
      dsimp +instances only
      rw [if_neg (by decide), show (cT v M) 53 1 = M 11 0 from es, wI_of (x := M 11 0) (by omega) (by omega), if_neg h2, wI_of (x := (q : Int)) (by omega) (by omega), if_pos (by omega), Int.toNat_natCast, show (cT v M) 57 q = M 2 q by (show M 57 q = M 2 q; rw [I.2.1.1]), wI_of (x := M 2 q) (by omega) (by omega), if_neg (by omega), e1, ob]
      dsimp +instances only
      rw [if_neg (by decide), e2, ob]
      dsimp +instances only
      rw [g19]
    refine ⟨_, _, _, _, hc, hm, rfl, ?_⟩
    have I2 : Inv (mT v (cT v M)) := inv_tell I v
    refine Kp.inv I2 ⟨fun b hb => ?_, fun j hj => ?_, fun j _ => ?_⟩
    · rw [up_a (by omega), gB_a (by omega)]; unfold mT; rw [up_a (by omega)]
    · unfold mT
      by_cases cj : j = 8
      · subst cj; rw [up_s, up_s]
      · rw [up_j cj, up_j cj, gB_j (by omega) (by omega)]
    · rw [up_a (by decide), gB_a (by decide)]; unfold mT; rw [up_a (by decide)]
  · refine st_find I (f := 3) ?_ ?_
    · rw [X_X8_judge_0, sp_isNumber_1 I.sh1 hr, b2_t h1, ob]
      dsimp +instances only
      rw [if_neg (by decide), sp_hasNoLand I.g11, b2_f h2, ob]
      dsimp +instances only
      rw [if_pos wI_0, sp_isThere_1 I.sh1 h1, Int.toNat_natCast, b2_t h3, ob]
      dsimp +instances only
      rw [if_neg (by decide), (sp_within I.b hq h3).2 c, ob]
      dsimp +instances only
      rw [if_pos wI_0, f_c3, ob]
    · have B : Ib (cF 3 M) := Kb.ib I.b (Kb.cf M 3)
      have e1 : X_X9_areMoves_53 q (cF 3 M) = some (0, cF 3 M) := (sp_areMoves B hq h3).2 c
      rw [X_X9_judge_53, sp_isRow _ hr, b2_t h1, ob]
      dsimp +instances only
      rw [if_neg (by decide), show (cF 3 M) 53 1 = M 11 0 from es, wI_of (x := M 11 0) (by omega) (by omega), if_neg h2, wI_of (x := (q : Int)) (by omega) (by omega), if_pos (by omega), Int.toNat_natCast, show (cF 3 M) 57 q = M 2 q by (show M 57 q = M 2 q; rw [I.2.1.1]), wI_of (x := M 2 q) (by omega) (by omega), if_neg (by omega), e1, ob]
      dsimp +instances only
      rw [if_pos wI_0, f_m3, ob]
/-! a row that can be gone along -/
noncomputable def cg_ (M : am_M) (r : Nat) : Prop := (∀ j : Nat, (j : Int) < M 2 r → wm_ M r j) ∧ (wF (mv_ M) (rw_ M r) (M 14 0) (M 2 r).toNat 0 (M 14 1) : Int) = M 2 r
theorem sp_canGo {M : am_M} (I : Ib M) {r : Nat} (hr : r < 6) (h0 : 0 ≤ M 2 r) : (cg_ M r → X_X8_canGo_0 r M = some (1, M)) ∧ (¬ cg_ M r → X_X8_canGo_0 r M = some (0, M)) := by
  have hs := I.2.1.2.1 r
  have fr := wF_r (mv_ M) (rw_ M r) (M 14 0) (M 2 r).toNat 0 (M 14 1)
  unfold cg_
  by_cases c : ∀ j : Nat, (j : Int) < M 2 r → wm_ M r j
  · have st : X_X8_canGo_0 r M = if (wF (mv_ M) (rw_ M r) (M 14 0) (M 2 r).toNat 0 (M 14 1) : Int) = M 2 r then some (1, M) else some (0, M) := by
      rw [X_X8_canGo_0, (sp_within I hr h0).1 c, ob]
      dsimp +instances only
      rw [if_neg (by decide), sp_first I hr h0 c, ob]
      dsimp +instances only
      rw [c_size I hr, ob]
      dsimp +instances only
      rw [wI_of (x := (wF (mv_ M) (rw_ M r) (M 14 0) (M 2 r).toNat 0 (M 14 1) : Int)) (by omega) (by omega), wI_of (x := M 2 r) (by omega) (by omega)]
    rw [st]
    exact ⟨fun h => if_pos h.2, fun h => if_neg (fun q => h ⟨c, q⟩)⟩
  · refine ⟨fun h => absurd h.1 c, fun _ => ?_⟩
    rw [X_X8_canGo_0, (sp_within I hr h0).2 c, ob]
    dsimp +instances only
    rw [if_pos wI_0]
theorem lp_rude (k : Int → am_M → am_Rs) {M : am_M} (I : Ib M) {r : Nat} (hr : r < 6) : ∀ (e n i : Nat) (b a : Int), (0 ≤ b ∧ b ≤ M 11 0) → (i : Int) + e = M 2 r → e < n → (∀ j, i ≤ j → j < i + e → wm_ M r j) → wF (mv_ M) (rw_ M r) (M 14 0) e i b = i + e → XL_X4_rudenessOf_36_1_1 k n r a b i M = k (wR (mv_ M) (rw_ M r) (M 14 0) e i b a) M
  | 0, n + 1, i, b, a, hb, hi, hn, h, hw => by
    have hs := I.2.1.2.1 r
    rw [XL_X4_rudenessOf_36_1_1, XB_X4_rudenessOf_36_1_1, c_size I hr, ob]
    dsimp +instances only
    rw [wI_of (x := (i : Int)) (by omega) (by omega), wI_of (x := M 2 r) (by omega) (by omega), if_neg (by omega), wR]
  | e + 1, n + 1, i, b, a, hb, hi, hn, h, hw => by
    have hs := I.2.1.2.1 r
    have r0 := I.r0
    have q := h i (by omega) (by omega)
    unfold wm_ at q
    rw [wF] at hw
    have c : ¬ mv_ M b (rw_ M r i) (M 14 0 + i) = -1 := fun c => by rw [if_pos c] at hw; omega
    rw [if_neg c] at hw
    rw [XL_X4_rudenessOf_36_1_1, XB_X4_rudenessOf_36_1_1, c_size I hr, ob]
    dsimp +instances only
    rw [wI_of (x := (i : Int)) (by omega) (by omega), wI_of (x := M 2 r) (by omega) (by omega), if_pos (by omega), c_get I hr (by omega), ob]
    dsimp +instances only
    rw [c_rud I hb q (by omega), ob, wR, if_neg c]
    exact lp_rude k I hr e n (i + 1) (b + rw_ M r i) (a + mv_ M b (rw_ M r i) (M 14 0 + i)) (mv_in (by omega) hb c) (by push_cast; omega) (by omega) (fun j h1 h2 => h j (by omega) (by omega)) (by omega)
theorem sp_alongN {M N : am_M} (I : Ib N) (hN : Kb M N) {r : Nat} (hr : r < 6) (h0 : 0 ≤ M 2 r) (h : ∀ j : Nat, (j : Int) < M 2 r → wm_ M r j) : X_X9_goAlong_53 r N = some ((wF (mv_ M) (rw_ M r) (M 14 0) (M 2 r).toNat 0 (M 14 1) : Int), gB N (wB_ (mv_ M) (rw_ M r) (M 14 0) (M 2 r).toNat 0 (M 14 1)) (wR (mv_ M) (rw_ M r) (M 14 0) (M 2 r).toNat 0 (M 14 1) 0)) := by
  have k2 := hN.1 2 (by decide)
  have k3 := hN.1 3 (by decide)
  have k14 := hN.1 14 (by decide)
  have km : mv_ N = mv_ M := by funext b m d; unfold mv_; rw [hN.1 11 (by decide), hN.1 12 (by decide)]
  have kr : rw_ N r = rw_ M r := by funext j; unfold rw_; rw [k3]
  have := sp_along I hr (by rw [k2]; exact h0) (by rw [k2]; intro j hj; unfold wm_; rw [kr]; exact h j hj)
  rw [km, kr, k14, k2] at this
  exact this
theorem sp_areMovesN {M N : am_M} (I : Ib N) (hN : Kb M N) {r : Nat} (hr : r < 6) (h0 : 0 ≤ M 2 r) : ((∀ j : Nat, (j : Int) < M 2 r → wm_ M r j) → X_X9_areMoves_53 r N = some (1, N)) ∧ (¬ (∀ j : Nat, (j : Int) < M 2 r → wm_ M r j) → X_X9_areMoves_53 r N = some (0, N)) := by
  have k2 := hN.1 2 (by decide)
  have k3 := hN.1 3 (by decide)
  have kr : ∀ j, wm_ N r j = wm_ M r j := by intro j; unfold wm_ rw_; rw [k3]
  have := sp_areMoves I hr (by rw [k2]; exact h0)
  rw [k2] at this
  simp only [kr] at this
  exact this
theorem eq_rude {M : am_M} (I : Inv M) {r : Int} (hr : iR r) : Step (X_X8_rude_0 r) (X_X9_rude_53 r) M := gd_rude I hr fun h1 h2 h3 => by
  obtain ⟨q, rfl⟩ := Int.eq_ofNat_of_zero_le h1.1
  rw [Int.toNat_natCast] at h3
  have hq : q < 6 := by omega
  have hs := I.2.1.2.1 q
  have rs := I.rs
  have es := I.es
  have fr := wF_r (mv_ M) (rw_ M q) (M 14 0) (M 2 q).toNat 0 (M 14 1)
  have cS : X_X8_rude_0 q M = (X_X8_canGo_0 q M).bind fun z4 => if wI z4.1 = 0 then (X_X8_find_0 3 z4.2).bind fun z5 => some (z5.1, z5.2) else (X_X4_rudenessOf_36_1 q z4.2).bind fun z5 => some (z5.1, z5.2) := by
    rw [X_X8_rude_0, sp_isNumber_1 I.sh1 hr, b2_t h1, ob]
    dsimp +instances only
    rw [if_neg (by decide), sp_hasNoLand I.g11, b2_f h2, ob]
    dsimp +instances only
    rw [if_pos wI_0, sp_isThere_1 I.sh1 h1, Int.toNat_natCast, b2_t h3, ob]
    dsimp +instances only
    rw [if_neg (by decide)]
  have mS : ∀ N : am_M, N 53 1 = M 53 1 → N 57 = M 57 → X_X9_rude_53 q N = (X_X9_areMoves_53 q N).bind fun z2 => if wI z2.1 = 0 then (X_X9_find_53 3 z2.2).bind fun z3 => some (z3.1, z3.2) else (X_X9_goAlong_53 q z2.2).bind fun z3 => if wI z3.1 < wI (z3.2 57 q) then (X_X9_find_53 3 z3.2).bind fun z4 => some (z4.1, z4.2) else some (z3.2 53 20, z3.2) := by
    intro N n1 n2
    rw [X_X9_rude_53, sp_isRow _ hr, b2_t h1, ob]
    dsimp +instances only
    rw [if_neg (by decide), n1, es, wI_of (x := M 11 0) (by omega) (by omega), if_neg h2, wI_of (x := (q : Int)) (by omega) (by omega), if_pos (by omega), Int.toNat_natCast, n2, I.2.1.1, wI_of (x := M 2 q) (by omega) (by omega), if_neg (by omega)]
    simp only [if_pos (show 0 ≤ (q : Int) ∧ (q : Int) < 6 by omega)]
  by_cases c : cg_ M q
  · have hc : X_X8_rude_0 q M = some (wR (mv_ M) (rw_ M q) (M 14 0) (M 2 q).toNat 0 (M 14 1) 0, M) := by
      rw [cS, (sp_canGo I.b hq h3).1 c, ob]
      dsimp +instances only
      have := lp_rude XB_X4_rudenessOf_36_1_3 I.b hq (M 2 q).toNat 1000 0 (M 14 1) 0 I.r1 (by omega) (by omega) (fun j _ h2 => c.1 j (by omega)) (by have := c.2; omega)
      rw [show ((0 : Nat) : Int) = 0 from rfl] at this
      rw [if_neg (by decide), X_X4_rudenessOf_36_1, XB_X4_rudenessOf_36_1_e, this]; rfl
    have e2 := sp_along I.b hq h3 c.1
    have hm : X_X9_rude_53 q M = some (wR (mv_ M) (rw_ M q) (M 14 0) (M 2 q).toNat 0 (M 14 1) 0, gB M (wB_ (mv_ M) (rw_ M q) (M 14 0) (M 2 q).toNat 0 (M 14 1)) (wR (mv_ M) (rw_ M q) (M 14 0) (M 2 q).toNat 0 (M 14 1) 0)) := by
      rw [mS M rfl rfl, (sp_areMoves I.b hq h3).1 c.1, ob]
      dsimp +instances only
      rw [if_neg (by decide), e2, ob]
      dsimp +instances only
      rw [gB_a (by decide), I.2.1.1, c.2, if_neg (Int.lt_irrefl _)]
      unfold gB; rw [up_s]
    exact st_kp I hc (Kp.rf M) hm (gB_K _ _ _) rfl
  · have hc : X_X8_rude_0 q M = some (-3, cF 3 M) := by
      rw [cS, (sp_canGo I.b hq h3).2 c, ob]
      dsimp +instances only
      rw [if_pos wI_0, f_c3, ob]
    have B : Ib (cF 3 M) := Kb.ib I.b (Kb.cf M 3)
    by_cases c1 : ∀ j : Nat, (j : Int) < M 2 q → wm_ M q j
    · have c2 : (wF (mv_ M) (rw_ M q) (M 14 0) (M 2 q).toNat 0 (M 14 1) : Int) ≠ M 2 q := fun h => c ⟨c1, h⟩
      have e2 := sp_alongN B (Kb.cf M 3) hq h3 c1
      have hm : X_X9_rude_53 q (cF 3 M) = some (-3, mF 3 (gB (cF 3 M) (wB_ (mv_ M) (rw_ M q) (M 14 0) (M 2 q).toNat 0 (M 14 1)) (wR (mv_ M) (rw_ M q) (M 14 0) (M 2 q).toNat 0 (M 14 1) 0))) := by
        rw [mS (cF 3 M) rfl rfl, (sp_areMovesN B (Kb.cf M 3) hq h3).1 c1, ob]
        dsimp +instances only
        rw [if_neg (by decide), e2, ob]
        dsimp +instances only
        rw [gB_a (by decide), show (cF 3 M) 57 q = M 2 q by (show M 57 q = M 2 q; rw [I.2.1.1]), wI_of (x := (wF (mv_ M) (rw_ M q) (M 14 0) (M 2 q).toNat 0 (M 14 1) : Int)) (by omega) (by omega), wI_of (x := M 2 q) (by omega) (by omega), if_pos (by omega), f_m3, ob]
      refine ⟨_, _, _, _, hc, hm, rfl, ?_⟩
      exact inv_find2 I _ _
    · refine st_find I hc ?_
      rw [mS (cF 3 M) rfl rfl, (sp_areMovesN B (Kb.cf M 3) hq h3).2 c1, ob]
      dsimp +instances only
      rw [if_pos wI_0, f_m3, ob]
end
section
/-! What a strip pays by a row of moves. -/
theorem c_tax {d : Int} (hd : 0 ≤ d ∧ d < 1000) (M : am_M) : X_X1_isTaxDay d M = some (b2 (d % 10 = 9 ∧ d < 40), M) := by
  obtain ⟨n, rfl⟩ := Int.eq_ofNat_of_zero_le hd.1
  rw [sp_isTaxDay n (by omega), b2_c (p := n < 40 ∧ n % 10 = 9) (q := (n : Int) % 10 = 9 ∧ (n : Int) < 40) (by omega)]
theorem lp_tolls (k : am_M → am_Rs) {N : am_M} (F : Nat → Int) (v : Int) (hP : ∀ (f : Nat → Int) (p : Nat), p < 13 → X_X1_dueOfBoth_14_11 v p (am_row N 37 f) = some (F p, am_row N 37 f)) : ∀ (e n i : Nat) (f : Nat → Int), i + e = 13 → e < n → XL_X4_tollOfStrip_36_1 k n v i (am_row N 37 f) = k (am_row N 37 fun j => if i ≤ j ∧ j < 13 then F j else f j) := by
  intro e
  induction e with
  | zero =>
    intro n i f hi hn
    obtain ⟨n, rfl⟩ : ∃ m, n = m + 1 := ⟨n - 1, by omega⟩
    rw [XL_X4_tollOfStrip_36_1, XB_X4_tollOfStrip_36_1, wI_of (x := (i : Int)) (by omega) (by omega), if_neg (by omega)]
    refine congrArg (fun F => k (am_row N 37 F)) (funext fun j => ?_)
    rw [if_neg (by omega)]
  | succ e ih =>
    intro n i f hi hn
    obtain ⟨n, rfl⟩ : ∃ m, n = m + 1 := ⟨n - 1, by omega⟩
    rw [XL_X4_tollOfStrip_36_1, XB_X4_tollOfStrip_36_1, wI_of (x := (i : Int)) (by omega) (by omega), if_pos (by omega), hP f i (by omega), ob]
    dsimp +instances only
    rw [if_pos (by omega), Int.toNat_natCast, up_row, row_row, ← Int.natCast_succ, ih n (i + 1) _ (by omega) (by omega)]
    refine congrArg (fun F => k (am_row N 37 F)) (funext fun j => ?_)
    rw [row_s]
    by_cases c : j = i
    · subst c; rw [if_neg (by omega), if_pos rfl, if_pos (by omega)]
    · by_cases c2 : i + 1 ≤ j ∧ j < 13
      · rw [if_pos c2, if_pos (by omega)]
      · rw [if_neg c2, if_neg c, if_neg (by omega)]
noncomputable def db_ (M : am_M) (i b : Int) : Int := du_ M 0 i b + du_ M 1 i b
theorem db_r {M : am_M} (I : Ib M) (i b : Int) : 0 ≤ db_ M i b ∧ db_ M i b ≤ 324 := by
  have h1 := du_r I 0 i b
  have h2 := du_r I 1 i b
  unfold db_
  omega
theorem sp_tolls {M : am_M} (I : Ib M) {i : Int} (hi : 0 ≤ i ∧ i < M 11 0) : ∃ f, X_X4_tollOfStrip_36 i M = some (0, am_row M 37 f) ∧ ∀ p : Nat, p < 13 → f p = db_ M i p := by
  have := lp_tolls XB_X4_tollOfStrip_36_3 (N := M) (fun p => db_ M i p) i (fun f p hp => by
    have B : Ib (am_row M 37 f) := Kb.ib I (Kp.row (by decide)).b
    exact c_both B hi (by omega)) 13 1000 0 (M 37) (by omega) (by omega)
  rw [row_self, show ((0 : Nat) : Int) = 0 from rfl] at this
  refine ⟨fun j => if 0 ≤ j ∧ j < 13 then db_ M i j else M 37 j, ?_, fun p hp => ?_⟩
  · rw [X_X4_tollOfStrip_36, XB_X4_tollOfStrip_36_e, this]; rfl
  · exact if_pos (by omega)
/-- dues along a row of moves -/
noncomputable def wP (f : Nat → Int) (D : Int → Int) (d : Int) : Nat → Nat → Int → Int → Int
  | 0, _, _, a => a
  | e + 1, i, b, a => wP f D d e (i + 1) (b + f i) (a + (if (d + i) % 10 = 9 ∧ d + i < 40 then D (b + f i) else 0))
theorem c_tollAt {M : am_M} {D : Int → Int} (hD : ∀ p : Nat, p < 13 → M 37 p = D p) {b d : Int} (hb : 0 ≤ b ∧ b ≤ 12) (hd : 0 ≤ d ∧ d < 1000) : X_X4_tollAt_36 b d M = some (if d % 10 = 9 ∧ d < 40 then D b else 0, M) := by
  obtain ⟨n, rfl⟩ := Int.eq_ofNat_of_zero_le hb.1
  rw [X_X4_tollAt_36, wI_of (x := (n : Int)) (by omega) (by omega), if_neg (by omega), if_pos (by omega), c_tax hd, ob]
  dsimp +instances only
  by_cases c : d % 10 = 9 ∧ d < 40
  · rw [if_neg (show ¬ wI (b2 (d % 10 = 9 ∧ d < 40)) = 0 by rw [b2_t c]; decide), if_pos (by omega), if_pos c, Int.toNat_natCast, hD n (by omega)]
  · rw [if_pos (show wI (b2 (d % 10 = 9 ∧ d < 40)) = 0 by rw [b2_f c]; rfl), if_neg c]
theorem lp_tollsOf (k : Int → am_M → am_Rs) {M : am_M} (I : Ib M) {r : Nat} (hr : r < 6) {D : Int → Int} (hD : ∀ p : Nat, p < 13 → M 37 p = D p) : ∀ (e n i : Nat) (b a : Int), (0 ≤ b ∧ b ≤ M 11 0) → (i : Int) + e = M 2 r → e < n → (∀ j, i ≤ j → j < i + e → wm_ M r j) → wF (mv_ M) (rw_ M r) (M 14 0) e i b = i + e → XL_X4_tollsOf_36_1_1 k n r a b i M = k (wP (rw_ M r) D (M 14 0) e i b a) M
  | 0, n + 1, i, b, a, hb, hi, hn, h, hw => by
    have hs := I.2.1.2.1 r
    rw [XL_X4_tollsOf_36_1_1, XB_X4_tollsOf_36_1_1, c_size I hr, ob]
    dsimp +instances only
    rw [wI_of (x := (i : Int)) (by omega) (by omega), wI_of (x := M 2 r) (by omega) (by omega), if_neg (by omega), wP]
  | e + 1, n + 1, i, b, a, hb, hi, hn, h, hw => by
    have hs := I.2.1.2.1 r
    have r0 := I.r0
    have rs := I.rs
    have q := h i (by omega) (by omega)
    unfold wm_ at q
    rw [wF] at hw
    have c : ¬ mv_ M b (rw_ M r i) (M 14 0 + i) = -1 := fun c => by rw [if_pos c] at hw; omega
    rw [if_neg c] at hw
    have hb' := mv_in (M := M) (d := M 14 0 + i) (m := rw_ M r i) (by omega) hb c
    rw [XL_X4_tollsOf_36_1_1, XB_X4_tollsOf_36_1_1, c_size I hr, ob]
    dsimp +instances only
    rw [wI_of (x := (i : Int)) (by omega) (by omega), wI_of (x := M 2 r) (by omega) (by omega), if_pos (by omega), c_get I hr (by omega), ob]
    dsimp only
    rw [c_tollAt hD (by omega) (by omega), ob, wP]
    exact lp_tollsOf k I hr hD e n (i + 1) (b + rw_ M r i) _ hb' (by push_cast; omega) (by omega) (fun j h1 h2 => h j (by omega) (by omega)) (by omega)
theorem m_paysOn {M : am_M} (I : Ib M) {i d b : Int} (hi : 0 ≤ i ∧ i < M 11 0) (hd : 0 ≤ d ∧ d < 1000) (hb : 0 ≤ b ∧ b ≤ 12) : X_X9_paysOn_53 i d b M = some (if d % 10 = 9 ∧ d < 40 then db_ M i b else 0, M) := by
  rw [X_X9_paysOn_53, sp_isTaxed M hd, ob]
  dsimp +instances only
  by_cases c : d % 10 = 9 ∧ d < 40
  · rw [if_neg (show ¬ wI (b2 (d % 10 = 9 ∧ d < 40)) = 0 by rw [b2_t c]; decide), m_both I hi hb, if_pos c]; rfl
  · rw [if_pos (show wI (b2 (d % 10 = 9 ∧ d < 40)) = 0 by rw [b2_f c]; rfl), if_neg c]
theorem lp_paysM (k : Int → am_M → am_Rs) {M : am_M} (I : Ib M) {r : Nat} (hr : r < 6) {v : Int} (hv : 0 ≤ v ∧ v < M 11 0) : ∀ (e n i : Nat) (b a : Int), (0 ≤ b ∧ b ≤ M 11 0) → (i : Int) + e = M 2 r → e < n → (∀ j, i ≤ j → j < i + e → wm_ M r j) → wF (mv_ M) (rw_ M r) (M 14 0) e i b = i + e → XL_X9_pays_53_9 k n v r b a i M = k (wP (rw_ M r) (db_ M v) (M 14 0) e i b a) M
  | 0, n + 1, i, b, a, hb, hi, hn, h, hw => by
    have hs := I.2.1.2.1 r
    rw [XL_X9_pays_53_9, XB_X9_pays_53_9, wI_of (x := (r : Int)) (by omega) (by omega), if_pos (by omega), Int.toNat_natCast, I.2.1.1, wI_of (x := (i : Int)) (by omega) (by omega), wI_of (x := M 2 r) (by omega) (by omega), if_neg (by omega), wP]
  | e + 1, n + 1, i, b, a, hb, hi, hn, h, hw => by
    have hs := I.2.1.2.1 r
    have r0 := I.r0
    have rs := I.rs
    have q := h i (by omega) (by omega)
    unfold wm_ at q
    rw [wF] at hw
    have c : ¬ mv_ M b (rw_ M r i) (M 14 0 + i) = -1 := fun c => by rw [if_pos c] at hw; omega
    rw [if_neg c] at hw
    have hb' := mv_in (M := M) (d := M 14 0 + i) (m := rw_ M r i) (by omega) hb c
    have e1 : ∀ _ : Unit, wI (40 * (r : Int) + i) = ((40 * r + i : Nat) : Int) := fun _ => by rw [wI_of (by omega) (by omega)]; push_cast; omega
    rw [XL_X9_pays_53_9, XB_X9_pays_53_9, wI_of (x := (r : Int)) (by omega) (by omega), if_pos (by omega), Int.toNat_natCast, I.2.1.1, wI_of (x := (i : Int)) (by omega) (by omega), wI_of (x := M 2 r) (by omega) (by omega), if_pos (by omega), e1 (), Int.toNat_natCast, if_pos (by omega), m_row I hr (by omega), I.d0, m_paysOn I hv (by omega) (by omega), ob, wP]
    exact lp_paysM k I hr hv e n (i + 1) (b + rw_ M r i) _ hb' (by push_cast; omega) (by omega) (fun j h1 h2 => h j (by omega) (by omega)) (by omega)
theorem eq_pays {M : am_M} (I : Inv M) {i r : Int} (hi : iR i) (hr : iR r) : Step (X_X8_pays_0 i r) (X_X9_pays_53 i r) M := gd_pays I hi hr fun h1 h2 h3 => by
  obtain ⟨q, rfl⟩ := Int.eq_ofNat_of_zero_le h2.1
  rw [Int.toNat_natCast] at h3
  have hq : q < 6 := by omega
  have hs := I.2.1.2.1 q
  have rs := I.rs
  have es := I.es
  have fr := wF_r (mv_ M) (rw_ M q) (M 14 0) (M 2 q).toNat 0 (M 14 1)
  have cS : X_X8_pays_0 i q M = (X_X8_canGo_0 q M).bind fun z4 => if wI z4.1 = 0 then (X_X8_find_0 3 z4.2).bind fun z5 => some (z5.1, z5.2) else (X_X4_tollOfStrip_36 i z4.2).bind fun z5 => (X_X4_tollsOf_36_1 q z5.2).bind fun z6 => some (z6.1, z6.2) := by
    rw [X_X8_pays_0, sp_has_11 I.g11 hi, b2_t h1, ob]
    dsimp +instances only
    rw [if_neg (by decide), sp_isNumber_1 I.sh1 hr, b2_t h2, ob]
    dsimp +instances only
    rw [if_neg (by decide), sp_isThere_1 I.sh1 h2, Int.toNat_natCast, b2_t h3, ob]
    dsimp +instances only
    rw [if_neg (by decide)]
  have mS : ∀ N : am_M, N 53 1 = M 53 1 → N 57 = M 57 → X_X9_pays_53 i q N = (X_X9_areMoves_53 q N).bind fun z2 => if wI z2.1 = 0 then (X_X9_find_53 3 z2.2).bind fun z3 => some (z3.1, z3.2) else (X_X9_goAlong_53 q z2.2).bind fun z3 => if wI z3.1 < wI (z3.2 57 q) then (X_X9_find_53 3 z3.2).bind fun z4 => some (z4.1, z4.2) else XL_X9_pays_53_9 XB_X9_pays_53_11 1000 i q (z3.2 54 1) 0 0 z3.2 := by
    intro N n1 n2
    rw [X_X9_pays_53, XB_X9_pays_53_e, sp_isStrip (by rw [n1, es]; exact rs) hi, n1, es, b2_t h1, ob]
    dsimp +instances only
    rw [if_neg (by decide), sp_isRow _ hr, b2_t h2, ob]
    dsimp +instances only
    rw [if_neg (by decide), wI_of (x := (q : Int)) (by omega) (by omega), if_pos (by omega), Int.toNat_natCast, n2, I.2.1.1, wI_of (x := M 2 q) (by omega) (by omega), if_neg (by omega)]
    simp only [if_pos (show 0 ≤ (q : Int) ∧ (q : Int) < 6 by omega)]
  by_cases c : cg_ M q
  · obtain ⟨f, t1, t2⟩ := sp_tolls I.b h1
    have B : Ib (am_row M 37 f) := Kb.ib I.b (Kp.row (by decide)).b
    have I2 : Inv (am_row M 37 f) := Kp.inv I (Kp.row (by decide))
    have hw : wF (mv_ M) (rw_ M q) (M 14 0) (M 2 q).toNat 0 (M 14 1) = 0 + (M 2 q).toNat := by have := c.2; omega
    have l1 : XL_X4_tollsOf_36_1_1 XB_X4_tollsOf_36_1_3 1000 q 0 (M 14 1) 0 (am_row M 37 f) = XB_X4_tollsOf_36_1_3 (wP (rw_ M q) (db_ M i) (M 14 0) (M 2 q).toNat 0 (M 14 1) 0) (am_row M 37 f) := lp_tollsOf XB_X4_tollsOf_36_1_3 B hq (D := db_ M i) (fun p hp => by rw [row_s]; exact t2 p hp) (M 2 q).toNat 1000 0 (M 14 1) 0 I.r1 (show ((0 : Nat) : Int) + _ = M 2 q by omega) (by omega) (fun j _ h2 => c.1 j (by omega)) hw
    have hc : X_X8_pays_0 i q M = some (wP (rw_ M q) (db_ M i) (M 14 0) (M 2 q).toNat 0 (M 14 1) 0, am_row M 37 f) := by
      rw [cS, (sp_canGo I.b hq h3).1 c, ob]
      dsimp +instances only
      rw [if_neg (by decide), t1, ob]
      dsimp +instances only
      rw [X_X4_tollsOf_36_1, XB_X4_tollsOf_36_1_e, show (am_row M 37 f) 14 1 = M 14 1 from rfl, l1]; rfl
    have e2 := sp_alongN B (Kp.row (f := f) (a := 37) (M := M) (by decide)).b hq h3 c.1
    obtain ⟨G, hG⟩ : ∃ G, G = gB (am_row M 37 f) (wB_ (mv_ M) (rw_ M q) (M 14 0) (M 2 q).toNat 0 (M 14 1)) (wR (mv_ M) (rw_ M q) (M 14 0) (M 2 q).toNat 0 (M 14 1) 0) := ⟨_, rfl⟩
    rw [← hG] at e2
    have kG : Kp (am_row M 37 f) G := by rw [hG]; exact gB_K _ _ _
    have kG2 : Kp M G := Kp.tr (Kp.row (by decide)) kG
    have g57 : G 57 = M 57 := kG2.1 57 (by decide)
    have g54 : G 54 1 = M 14 1 := by rw [kG2.2.2 1 (by decide), I.d1]
    have BG : Ib G := Kb.ib I.b kG2.b
    have q11 : G 11 = M 11 := kG2.1 11 (by decide)
    have q12 : G 12 = M 12 := kG2.1 12 (by decide)
    have q13 : G 13 = M 13 := kG2.1 13 (by decide)
    have q14 : G 14 = M 14 := kG2.1 14 (by decide)
    have q2 : G 2 = M 2 := kG2.1 2 (by decide)
    have q3 : G 3 = M 3 := kG2.1 3 (by decide)
    have qm : mv_ G = mv_ M := by funext b m d; unfold mv_; rw [q11, q12]
    have qr : rw_ G q = rw_ M q := by funext j; unfold rw_; rw [q3]
    have qd : db_ G i = db_ M i := by funext b; unfold db_ du_; rw [q12, q13, q14]
    have l2 := lp_paysM XB_X9_pays_53_11 BG hq (v := i) (by rw [q11]; exact h1) (M 2 q).toNat 1000 0 (M 14 1) 0 (by rw [q11]; exact I.r1) (by rw [q2]; omega) (by omega) (fun j _ h2 => by unfold wm_; rw [qr]; exact c.1 j (by omega)) (by rw [qm, qr, q14]; exact hw)
    rw [qr, qd, q14, show ((0 : Nat) : Int) = 0 from rfl] at l2
    have hm : X_X9_pays_53 i q (am_row M 37 f) = some (wP (rw_ M q) (db_ M i) (M 14 0) (M 2 q).toNat 0 (M 14 1) 0, G) := by
      rw [mS (am_row M 37 f) rfl rfl, (sp_areMovesN B (Kp.row (f := f) (a := 37) (M := M) (by decide)).b hq h3).1 c.1, ob]
      dsimp +instances only
      rw [if_neg (by decide), e2, ob]
      dsimp +instances only
      rw [g57, I.2.1.1, c.2, if_neg (Int.lt_irrefl _), g54, l2]; rfl
    exact st_kp I hc (Kp.row (by decide)) hm kG rfl
  · have hc : X_X8_pays_0 i q M = some (-3, cF 3 M) := by
      rw [cS, (sp_canGo I.b hq h3).2 c, ob]
      dsimp +instances only
      rw [if_pos wI_0, f_c3, ob]
    have B : Ib (cF 3 M) := Kb.ib I.b (Kb.cf M 3)
    by_cases c1 : ∀ j : Nat, (j : Int) < M 2 q → wm_ M q j
    · have c2 : (wF (mv_ M) (rw_ M q) (M 14 0) (M 2 q).toNat 0 (M 14 1) : Int) ≠ M 2 q := fun h => c ⟨c1, h⟩
      have e2 := sp_alongN B (Kb.cf M 3) hq h3 c1
      have hm : X_X9_pays_53 i q (cF 3 M) = some (-3, mF 3 (gB (cF 3 M) (wB_ (mv_ M) (rw_ M q) (M 14 0) (M 2 q).toNat 0 (M 14 1)) (wR (mv_ M) (rw_ M q) (M 14 0) (M 2 q).toNat 0 (M 14 1) 0))) := by
        rw [mS (cF 3 M) rfl rfl, (sp_areMovesN B (Kb.cf M 3) hq h3).1 c1, ob]
        dsimp +instances only
        rw [if_neg (by decide), e2, ob]
        dsimp +instances only
        rw [gB_a (by decide), show (cF 3 M) 57 q = M 2 q by (show M 57 q = M 2 q; rw [I.2.1.1]), wI_of (x := (wF (mv_ M) (rw_ M q) (M 14 0) (M 2 q).toNat 0 (M 14 1) : Int)) (by omega) (by omega), wI_of (x := M 2 q) (by omega) (by omega), if_pos (by omega), f_m3, ob]
      exact ⟨_, _, _, _, hc, hm, rfl, inv_find2 I _ _⟩
    · refine st_find I hc ?_
      rw [mS (cF 3 M) rfl rfl, (sp_areMovesN B (Kb.cf M 3) hq h3).2 c1, ob]
      dsimp +instances only
      rw [if_pos wI_0, f_m3, ob]
end
section
/-! Sets by bits. -/
noncomputable def bit_ (x : Int) (k : Nat) : Prop := (Int32.ofInt x).toBitVec.getLsbD k = true
theorem bit_ext {x y : Int} (h : ∀ k, k < 32 → (bit_ x k ↔ bit_ y k)) : wI x = wI y := by
  rw [← wI_toInt, ← wI_toInt]
  have : (Int32.ofInt x).toBitVec = (Int32.ofInt y).toBitVec := by
    apply BitVec.eq_of_getLsbD_eq
    intro i hi
    have := h i hi
    unfold bit_ at this
    exact Bool.eq_iff_iff.mpr this
  rw [Int32.toInt, Int32.toInt, this]
theorem bit_or (x y : Int) (k : Nat) : bit_ (b_or_ x y) k ↔ bit_ x k ∨ bit_ y k := by
  unfold bit_ b_or_
  rw [Int32.ofInt_toInt, Int32.toBitVec_or, BitVec.getLsbD_or, Bool.or_eq_true]
theorem bit_0 (k : Nat) : ¬ bit_ 0 k := by
  unfold bit_
  rw [show (Int32.ofInt 0).toBitVec = 0#32 from rfl, BitVec.getLsbD_zero]
  decide
theorem bit_1 : ∀ (j k : Nat), j < 20 → k < 32 → (bit_ (b_shl_ 1 j) k ↔ k = j) := by
  have : ∀ j : Fin 20, ∀ k : Fin 32, ((Int32.ofInt (b_shl_ 1 ((j.val : Nat) : Int))).toBitVec.getLsbD k.val = true ↔ k.val = j.val) := by decide +kernel
  intro j k hj hk
  exact this ⟨j, hj⟩ ⟨k, hk⟩
theorem bit_get (x : Int) {k : Nat} (hk : k < 20) : (bit_ x k → wI (b_and_ (b_shr_ x k) 1) = 1) ∧ (¬ bit_ x k → wI (b_and_ (b_shr_ x k) 1) = 0) := by
  have hs : ∀ k : Fin 20, ((Int32.ofInt ((k.val : Nat) : Int) &&& 31).toBitVec.smod 32#32) = BitVec.ofNat 32 k.val := by decide +kernel
  have h0 := hs ⟨k, hk⟩
  have e1 : (Int32.ofInt (b_shr_ x k)).toBitVec.getLsbD 0 = (Int32.ofInt x).toBitVec.getLsbD k := by
    unfold b_shr_
    rw [Int32.ofInt_toInt, Int32.toBitVec_shiftRight]
    rw [show ((Int32.ofInt (k : Int) &&& 31).toBitVec.smod 32) = BitVec.ofNat 32 k from h0]
    rw [BitVec.sshiftRight_eq', BitVec.getLsbD_sshiftRight, BitVec.toNat_ofNat, Nat.mod_eq_of_lt (show k < 2 ^ 32 by omega), if_pos (by omega), Nat.add_zero]
    rfl
  have e2 : ∀ (y : Int) (b : Bool), (Int32.ofInt y).toBitVec.getLsbD 0 = b → wI (b_and_ y 1) = if b = true then 1 else 0 := by
    intro y b h
    unfold b_and_
    rw [Int32.toInt, Int32.toBitVec_and, show (Int32.ofInt 1).toBitVec = 1#32 from rfl, BitVec.and_one_eq_setWidth_ofBool_getLsbD, h]
    cases b <;> decide
  unfold bit_
  constructor
  · intro h; exact e2 _ true (by rw [e1, h])
  · intro h; exact e2 _ false (by rw [e1]; exact Bool.eq_false_iff.mpr h)
/-! places that can be come to -/
noncomputable def mvs (m : Int) : Prop := m = -1 ∨ m = 0 ∨ m = 1
/-- behind k days the border can be at place q -/
noncomputable def rc_ (M : am_M) : Nat → Nat → Prop
  | 0, q => (q : Int) = M 14 1
  | k + 1, q => ∃ p : Nat, rc_ M k p ∧ (p : Int) ≤ M 11 0 ∧ ∃ m : Int, mvs m ∧ mv_ M p m (M 14 0 + k) ≠ -1 ∧ (q : Int) = p + m
theorem rc_r {M : am_M} (I : Ic M) : ∀ (k q : Nat), rc_ M k q → (q : Int) ≤ M 11 0
  | 0, q, h => by have := I.r1; unfold rc_ at h; omega
  | k + 1, q, h => by
    obtain ⟨p, h1, h2, m, h3, h4, h5⟩ := h
    have := mv_in h3 (show 0 ≤ (p : Int) ∧ (p : Int) ≤ M 11 0 by omega) h4
    omega
/-- a set by bits: what is in it -/
noncomputable def BS (x : Int) (S : Nat → Prop) : Prop := ∀ k, k < 32 → (bit_ x k ↔ S k)
theorem BS.or {x y : Int} {S T : Nat → Prop} (h : BS x S) (g : BS y T) : BS (b_or_ x y) (fun k => S k ∨ T k) := fun k hk => by rw [bit_or, h k hk, g k hk]
theorem BS.z : BS 0 (fun _ => False) := fun k _ => ⟨fun h => bit_0 k h, fun h => h.elim⟩
theorem BS.one {j : Int} (h : 0 ≤ j ∧ j < 20) : BS (b_shl_ 1 j) (fun k => (k : Int) = j) := fun k hk => by
  obtain ⟨n, rfl⟩ := Int.eq_ofNat_of_zero_le h.1
  rw [bit_1 n k (by omega) hk]; omega
theorem BS.w {x y : Int} {S : Nat → Prop} (h : BS x S) (g : BS y S) : wI x = wI y := bit_ext fun k hk => by rw [h k hk, g k hk]
theorem BS.c {x : Int} {S T : Nat → Prop} (h : BS x S) (e : ∀ k, k < 32 → (S k ↔ T k)) : BS x T := fun k hk => by rw [h k hk, e k hk]
theorem BS.get {x : Int} {S : Nat → Prop} (h : BS x S) {k : Nat} (hk : k < 20) : (S k → wI (b_and_ (b_shr_ x k) 1) = 1) ∧ (¬ S k → wI (b_and_ (b_shr_ x k) 1) = 0) := by
  have := bit_get x hk
  rw [h k (by omega)] at this
  exact this
theorem c_pb1 (k : Int → am_M → am_Rs) {M : am_M} (I : Ic M) (n : Nat) {p d v m : Int} (hp : 0 ≤ p ∧ p ≤ M 11 0) (hd : 0 ≤ d ∧ d < 1000) (hm : -1 ≤ m ∧ m ≤ 1) : XL_X4_placesBehind_36_1 k (n + 1) p d v m M = XL_X4_placesBehind_36_1 k n p d (if mv_ M p m d = -1 then v else b_or_ v (b_shl_ 1 (p + m))) (m + 1) M := by
  have hr := mv_r M p m d
  rw [XL_X4_placesBehind_36_1, XB_X4_placesBehind_36_1, wI_of (x := m) (by omega) (by omega), if_neg (by omega), kc_rud I hp hm hd, ob]
  dsimp +instances only
  rw [wI_of (x := mv_ M p m d) (by omega) (by omega)]
  by_cases c : mv_ M p m d = -1
  · rw [if_pos (by omega), if_pos c]
  · rw [if_neg (by omega), if_neg c]
noncomputable def pb_ (M : am_M) (p d : Int) (q : Nat) : Prop := ∃ m : Int, mvs m ∧ mv_ M p m d ≠ -1 ∧ (q : Int) = p + m
theorem bs_if {x : Int} {S : Nat → Prop} (h : BS x S) {p m r : Int} (hp : r ≠ -1 → 0 ≤ p + m ∧ p + m < 20) : BS (if r = -1 then x else b_or_ x (b_shl_ 1 (p + m))) (fun k => S k ∨ (r ≠ -1 ∧ (k : Int) = p + m)) := by
  by_cases c : r = -1
  · rw [if_pos c]; exact h.c fun k _ => ⟨fun q => Or.inl q, fun q => q.elim id (fun w => absurd c w.1)⟩
  · rw [if_neg c]; exact (h.or (BS.one (hp c))).c fun k _ => ⟨fun q => q.elim Or.inl (fun w => Or.inr ⟨c, w⟩), fun q => q.elim Or.inl (fun w => Or.inr w.2)⟩
theorem sp_pb {M : am_M} (I : Ic M) {p d : Int} (hp : 0 ≤ p ∧ p ≤ M 11 0) (hd : 0 ≤ d ∧ d < 1000) : ∃ x, X_X4_placesBehind_36 p d M = some (x, M) ∧ BS x (pb_ M p d) := by
  have rs := I.rs
  have e1 : XL_X4_placesBehind_36_1 XB_X4_placesBehind_36_5 1000 p d 0 (-1) M = _ := c_pb1 _ I 999 hp hd (by decide)
  have e2 : ∀ v, XL_X4_placesBehind_36_1 XB_X4_placesBehind_36_5 999 p d v (-1 + 1) M = _ := fun v => c_pb1 _ I 998 hp hd (by decide)
  have e3 : ∀ v, XL_X4_placesBehind_36_1 XB_X4_placesBehind_36_5 998 p d v (-1 + 1 + 1) M = _ := fun v => c_pb1 _ I 997 hp hd (by decide)
  have b1 := bs_if BS.z (p := p) (m := -1) (r := mv_ M p (-1) d) (fun h => by have := mv_in (M := M) (Or.inl rfl) hp h; omega)
  have b2 := bs_if b1 (p := p) (m := -1 + 1) (r := mv_ M p (-1 + 1) d) (fun h => by have := mv_in (M := M) (m := -1 + 1) (Or.inr (Or.inl rfl)) hp h; omega)
  have b3 := bs_if b2 (p := p) (m := -1 + 1 + 1) (r := mv_ M p (-1 + 1 + 1) d) (fun h => by have := mv_in (M := M) (m := -1 + 1 + 1) (Or.inr (Or.inr rfl)) hp h; omega)
  refine ⟨_, ?_, b3.c fun k _ => ?_⟩
  · rw [X_X4_placesBehind_36, XB_X4_placesBehind_36_e, e1, e2, e3, XL_X4_placesBehind_36_1, XB_X4_placesBehind_36_1, if_pos (by decide), XB_X4_placesBehind_36_5]
  · unfold pb_
    constructor
    · rintro (((h | h) | h) | h)
      · exact h.elim
      · exact ⟨-1, Or.inl rfl, h.1, h.2⟩
      · exact ⟨0, Or.inr (Or.inl rfl), h.1, h.2⟩
      · exact ⟨1, Or.inr (Or.inr rfl), h.1, h.2⟩
    · rintro ⟨m, rfl | rfl | rfl, h1, h2⟩
      · exact Or.inl (Or.inl (Or.inr ⟨h1, h2⟩))
      · exact Or.inl (Or.inr ⟨h1, h2⟩)
      · exact Or.inr ⟨h1, h2⟩
/-- what a day does to a set of places -/
noncomputable def sp_ (M : am_M) (S : Nat → Prop) (d : Int) (q : Nat) : Prop := ∃ p : Nat, S p ∧ (p : Int) ≤ M 11 0 ∧ pb_ M p d q
theorem lp_spread (k : Int → am_M → am_Rs) {M : am_M} (I : Ic M) {x d : Int} {S : Nat → Prop} (hx : BS x S) (hd : 0 ≤ d ∧ d < 1000) : ∀ (e n i : Nat) (v : Int) (T : Nat → Prop), BS v T → (i : Int) + e = M 11 0 + 1 → e < n → ∃ w, XL_X4_spread_36_1 k n x d v i M = k w M ∧ BS w (fun q => T q ∨ ∃ p : Nat, i ≤ p ∧ S p ∧ (p : Int) ≤ M 11 0 ∧ pb_ M p d q) := by
  intro e
  induction e with
  | zero =>
    intro n i v T hv hi hn
    have rs := I.rs
    obtain ⟨n, rfl⟩ : ∃ m, n = m + 1 := ⟨n - 1, by omega⟩
    refine ⟨v, ?_, hv.c fun q _ => ⟨Or.inl, fun h => h.elim id fun ⟨p, h1, h2, h3, h4⟩ => by omega⟩⟩
    rw [XL_X4_spread_36_1, XB_X4_spread_36_1, wI_of (x := (i : Int)) (by omega) (by omega), wI_of (x := M 11 0) (by omega) (by omega), if_pos (by omega)]
  | succ e ih =>
    intro n i v T hv hi hn
    have rs := I.rs
    obtain ⟨n, rfl⟩ : ∃ m, n = m + 1 := ⟨n - 1, by omega⟩
    have st : XL_X4_spread_36_1 k (n + 1) x d v i M = if wI (b_and_ (b_shr_ x i) 1) = 0 then XL_X4_spread_36_1 k n x d v ((i + 1 : Nat) : Int) M else (X_X4_placesBehind_36 i d M).bind fun z1 => XL_X4_spread_36_1 k n x d (b_or_ v z1.1) ((i + 1 : Nat) : Int) z1.2 := by
      rw [XL_X4_spread_36_1, XB_X4_spread_36_1, wI_of (x := (i : Int)) (by omega) (by omega), wI_of (x := M 11 0) (by omega) (by omega), if_neg (by omega)]; rfl
    rw [st]
    have hg := hx.get (k := i) (by omega)
    by_cases c : S i
    · rw [if_neg (by rw [hg.1 c]; decide)]
      obtain ⟨y, y1, y2⟩ := sp_pb I (p := (i : Int)) (by omega) hd
      obtain ⟨w, w1, w2⟩ := ih n (i + 1) (b_or_ v y) _ (hv.or y2) (by push_cast; omega) (by omega)
      refine ⟨w, by rw [y1, ob]; exact w1, w2.c fun q _ => ?_⟩
      constructor
      · rintro ((h | h) | ⟨p, h1, h2, h3, h4⟩)
        · exact Or.inl h
        · exact Or.inr ⟨i, Nat.le_refl _, c, by omega, h⟩
        · exact Or.inr ⟨p, by omega, h2, h3, h4⟩
      · rintro (h | ⟨p, h1, h2, h3, h4⟩)
        · exact Or.inl (Or.inl h)
        · rcases Nat.lt_or_eq_of_le h1 with h5 | h5
          · exact Or.inr ⟨p, h5, h2, h3, h4⟩
          · subst h5; exact Or.inl (Or.inr h4)
    · rw [if_pos (hg.2 c)]
      obtain ⟨w, w1, w2⟩ := ih n (i + 1) v T hv (by push_cast; omega) (by omega)
      refine ⟨w, w1, w2.c fun q _ => ?_⟩
      constructor
      · rintro (h | ⟨p, h1, h2, h3, h4⟩)
        · exact Or.inl h
        · exact Or.inr ⟨p, by omega, h2, h3, h4⟩
      · rintro (h | ⟨p, h1, h2, h3, h4⟩)
        · exact Or.inl h
        · rcases Nat.lt_or_eq_of_le h1 with h5 | h5
          · exact Or.inr ⟨p, h5, h2, h3, h4⟩
          · subst h5; exact absurd h2 c
theorem sp_spread {M : am_M} (I : Ic M) {x d : Int} {S : Nat → Prop} (hx : BS x S) (hd : 0 ≤ d ∧ d < 1000) : ∃ w, X_X4_spread_36 x d M = some (w, M) ∧ BS w (sp_ M S d) := by
  have rs := I.rs
  obtain ⟨w, w1, w2⟩ := lp_spread XB_X4_spread_36_5 I hx hd (M 11 0 + 1).toNat 1000 0 0 _ BS.z (by omega) (by omega)
  rw [show ((0 : Nat) : Int) = 0 from rfl] at w1
  refine ⟨w, by rw [X_X4_spread_36, XB_X4_spread_36_e, w1]; rfl, w2.c fun q _ => ?_⟩
  unfold sp_
  constructor
  · rintro (h | ⟨p, h1, h2⟩)
    · exact h.elim
    · exact ⟨p, h2⟩
  · rintro ⟨p, h2⟩
    exact Or.inr ⟨p, Nat.zero_le _, h2⟩
theorem lp_reachC (k : Int → am_M → am_Rs) {M : am_M} (I : Ic M) (v : Nat) (hv : v ≤ 20) : ∀ (e n i : Nat) (x : Int), BS x (rc_ M i) → i + e = v → e < n → ∃ w, XL_X4_reachIn_36_1 k n v x i M = k w M ∧ BS w (rc_ M v) := by
  intro e
  induction e with
  | zero =>
    intro n i x hx hi hn
    obtain ⟨n, rfl⟩ : ∃ m, n = m + 1 := ⟨n - 1, by omega⟩
    refine ⟨x, ?_, by rw [← hi]; exact hx⟩
    rw [XL_X4_reachIn_36_1, XB_X4_reachIn_36_1, wI_of (x := (i : Int)) (by omega) (by omega), wI_of (x := (v : Int)) (by omega) (by omega), if_neg (by omega)]
  | succ e ih =>
    intro n i x hx hi hn
    have r0 := I.r0
    obtain ⟨n, rfl⟩ : ∃ m, n = m + 1 := ⟨n - 1, by omega⟩
    obtain ⟨y, y1, y2⟩ := sp_spread I hx (d := M 14 0 + i) (by omega)
    obtain ⟨w, w1, w2⟩ := ih n (i + 1) y y2 (by omega) (by omega)
    refine ⟨w, ?_, w2⟩
    rw [XL_X4_reachIn_36_1, XB_X4_reachIn_36_1, wI_of (x := (i : Int)) (by omega) (by omega), wI_of (x := (v : Int)) (by omega) (by omega), if_pos (by omega), y1, ob]
    exact w1
theorem sp_reachC {M : am_M} (I : Ic M) (v : Nat) (hv : v ≤ 20) : ∃ w, X_X4_reachIn_36 v M = some (w, M) ∧ BS w (rc_ M v) := by
  have r1 := I.r1
  have rs := I.rs
  obtain ⟨w, w1, w2⟩ := lp_reachC XB_X4_reachIn_36_3 I v hv v 1000 0 (b_shl_ 1 (M 14 1)) (BS.one (by omega)) (by omega) (by omega)
  rw [show ((0 : Nat) : Int) = 0 from rfl] at w1
  exact ⟨w, by rw [X_X4_reachIn_36, XB_X4_reachIn_36_e, w1]; rfl, w2⟩
/-! the same of the reference -/
theorem m_has {x : Int} {S : Nat → Prop} (hx : BS x S) {k : Nat} (hk : k < 20) (M : am_M) : (S k → X_X9_has x k M = some (1, M)) ∧ (¬ S k → X_X9_has x k M = some (0, M)) := by
  have hg := hx.get hk
  constructor
  · intro h; rw [X_X9_has, if_pos (hg.1 h)]
  · intro h; rw [X_X9_has, if_neg (by rw [hg.2 h]; decide)]
theorem m_rp1 (k : Int → Int → Int → Int → Int → am_M → am_Rs) {M : am_M} (I : Ic M) (n : Nat) {a x d v m : Int} {p : Nat} {S : Nat → Prop} (hx : BS x S) (hp : (p : Int) ≤ M 11 0) (hd : 0 ≤ M 14 0 + d ∧ M 14 0 + d < 1000) (hm : -1 ≤ m ∧ m ≤ 1) : (S p → XL_X9_reachIn_53_5 k (n + 1) a x d v p m M = XL_X9_reachIn_53_5 k n a x d (b_or_ v (if mv_ M p m (M 14 0 + d) = -1 then 0 else b_shl_ 1 (p + m))) p (m + 1) M) ∧ (¬ S p → XL_X9_reachIn_53_5 k (n + 1) a x d v p m M = XL_X9_reachIn_53_5 k n a x d (b_or_ v 0) p (m + 1) M) := by
  have rs := I.rs
  have hg := m_has hx (k := p) (by omega) M
  constructor
  · intro h
    rw [XL_X9_reachIn_53_5, XB_X9_reachIn_53_5, wI_of (x := m) (by omega) (by omega), if_pos (by omega), hg.1 h, ob]
    dsimp +instances only
    rw [if_neg (by decide), I.d0, km_can I (by omega) hm hd, ob]
    dsimp +instances only
    by_cases c : mv_ M p m (M 14 0 + d) = -1
    · rw [if_pos (show wI (b2 (mv_ M p m (M 14 0 + d) ≠ -1)) = 0 by rw [b2_f (fun q => q c)]; rfl), if_pos c]
    · rw [if_neg (show ¬ wI (b2 (mv_ M p m (M 14 0 + d) ≠ -1)) = 0 by rw [b2_t c]; decide), if_neg c]
  · intro h
    rw [XL_X9_reachIn_53_5, XB_X9_reachIn_53_5, wI_of (x := m) (by omega) (by omega), if_pos (by omega), hg.2 h, ob]
    dsimp +instances only
    rw [if_pos wI_0]
theorem bs_if2 {x : Int} {S : Nat → Prop} (h : BS x S) {p m r : Int} (hp : r ≠ -1 → 0 ≤ p + m ∧ p + m < 20) : BS (b_or_ x (if r = -1 then 0 else b_shl_ 1 (p + m))) (fun k => S k ∨ (r ≠ -1 ∧ (k : Int) = p + m)) := by
  by_cases c : r = -1
  · rw [if_pos c]; exact (h.or BS.z).c fun k _ => ⟨fun q => q.elim Or.inl False.elim, fun q => q.elim Or.inl (fun w => absurd c w.1)⟩
  · rw [if_neg c]; exact (h.or (BS.one (hp c))).c fun k _ => ⟨fun q => q.elim Or.inl (fun w => Or.inr ⟨c, w⟩), fun q => q.elim Or.inl (fun w => Or.inr w.2)⟩
theorem m_rp (k : Int → Int → Int → Int → Int → am_M → am_Rs) {M : am_M} (I : Ic M) {a x d v : Int} {p : Nat} {S T : Nat → Prop} (hx : BS x S) (hv : BS v T) (hp : (p : Int) ≤ M 11 0) (hd : 0 ≤ M 14 0 + d ∧ M 14 0 + d < 1000) : ∃ w, XL_X9_reachIn_53_5 k 1000 a x d v p (-1) M = k a x d w p M ∧ BS w (fun q => T q ∨ (S p ∧ pb_ M p (M 14 0 + d) q)) := by
  have rs := I.rs
  have hp2 : 0 ≤ (p : Int) ∧ (p : Int) ≤ M 11 0 := by omega
  have fin : ∀ w, XL_X9_reachIn_53_5 k 997 a x d w p (-1 + 1 + 1 + 1) M = k a x d w p M := fun w => by
    rw [XL_X9_reachIn_53_5, XB_X9_reachIn_53_5, if_neg (by decide)]
  have s1 := fun v => m_rp1 k I 999 (a := a) (d := d) (v := v) (m := -1) hx hp hd (by decide)
  have s2 := fun v => m_rp1 k I 998 (a := a) (d := d) (v := v) (m := -1 + 1) hx hp hd (by decide)
  have s3 := fun v => m_rp1 k I 997 (a := a) (d := d) (v := v) (m := -1 + 1 + 1) hx hp hd (by decide)
  by_cases c : S p
  · have b1 := bs_if2 hv (p := p) (m := -1) (r := mv_ M p (-1) (M 14 0 + d)) (fun h => by have := mv_in (M := M) (Or.inl rfl) hp2 h; omega)
    have b2 := bs_if2 b1 (p := p) (m := -1 + 1) (r := mv_ M p (-1 + 1) (M 14 0 + d)) (fun h => by have := mv_in (M := M) (m := -1 + 1) (Or.inr (Or.inl rfl)) hp2 h; omega)
    have b3 := bs_if2 b2 (p := p) (m := -1 + 1 + 1) (r := mv_ M p (-1 + 1 + 1) (M 14 0 + d)) (fun h => by have := mv_in (M := M) (m := -1 + 1 + 1) (Or.inr (Or.inr rfl)) hp2 h; omega)
    refine ⟨_, (((s1 _).1 c).trans (((s2 _).1 c).trans ((s3 _).1 c))).trans (fin _), b3.c fun q _ => ?_⟩
    unfold pb_
    constructor
    · rintro (((h | h) | h) | h)
      · exact Or.inl h
      · exact Or.inr ⟨c, -1, Or.inl rfl, h.1, h.2⟩
      · exact Or.inr ⟨c, 0, Or.inr (Or.inl rfl), h.1, h.2⟩
      · exact Or.inr ⟨c, 1, Or.inr (Or.inr rfl), h.1, h.2⟩
    · rintro (h | ⟨-, m, rfl | rfl | rfl, h1, h2⟩)
      · exact Or.inl (Or.inl (Or.inl h))
      · exact Or.inl (Or.inl (Or.inr ⟨h1, h2⟩))
      · exact Or.inl (Or.inr ⟨h1, h2⟩)
      · exact Or.inr ⟨h1, h2⟩
  · refine ⟨_, (((s1 _).2 c).trans (((s2 _).2 c).trans ((s3 _).2 c))).trans (fin _), (((hv.or BS.z).or BS.z).or BS.z).c fun q _ => ?_⟩
    constructor
    · rintro (((h | h) | h) | h)
      · exact Or.inl h
      · exact h.elim
      · exact h.elim
      · exact h.elim
    · rintro (h | h)
      · exact Or.inl (Or.inl (Or.inl h))
      · exact absurd h.1 c
theorem lp_rM3 (k : Int → Int → Int → am_M → am_Rs) {M : am_M} (I : Ic M) {a x d : Int} {S : Nat → Prop} (hx : BS x S) (hd : 0 ≤ M 14 0 + d ∧ M 14 0 + d < 1000) : ∀ (e n i : Nat) (v : Int) (T : Nat → Prop), BS v T → (i : Int) + e = M 11 0 + 1 → e < n → ∃ w, XL_X9_reachIn_53_3 k n a x d v i M = k a d w M ∧ BS w (fun q => T q ∨ ∃ p : Nat, i ≤ p ∧ S p ∧ (p : Int) ≤ M 11 0 ∧ pb_ M p (M 14 0 + d) q) := by
  intro e
  induction e with
  | zero =>
    intro n i v T hv hi hn
    have rs := I.rs
    obtain ⟨n, rfl⟩ : ∃ m, n = m + 1 := ⟨n - 1, by omega⟩
    refine ⟨v, ?_, hv.c fun q _ => ⟨Or.inl, fun h => h.elim id fun ⟨p, h1, h2, h3, h4⟩ => by omega⟩⟩
    rw [XL_X9_reachIn_53_3, XB_X9_reachIn_53_3, I.es, wI_of (x := (i : Int)) (by omega) (by omega), wI_of (x := M 11 0) (by omega) (by omega), if_pos (by omega)]
  | succ e ih =>
    intro n i v T hv hi hn
    have rs := I.rs
    obtain ⟨n, rfl⟩ : ∃ m, n = m + 1 := ⟨n - 1, by omega⟩
    obtain ⟨y, y1, y2⟩ := m_rp (XB_X9_reachIn_53_11 (XL_X9_reachIn_53_3 k n)) I (a := a) (d := d) (p := i) hx hv (by omega) hd
    obtain ⟨w, w1, w2⟩ := ih n (i + 1) y _ y2 (by push_cast; omega) (by omega)
    refine ⟨w, ?_, w2.c fun q _ => ?_⟩
    · rw [XL_X9_reachIn_53_3, XB_X9_reachIn_53_3, I.es, wI_of (x := (i : Int)) (by omega) (by omega), wI_of (x := M 11 0) (by omega) (by omega), if_neg (by omega), y1, XB_X9_reachIn_53_11]
      exact w1
    · constructor
      · rintro ((h | h) | ⟨p, h1, h2, h3, h4⟩)
        · exact Or.inl h
        · exact Or.inr ⟨i, Nat.le_refl _, h.1, by omega, h.2⟩
        · exact Or.inr ⟨p, by omega, h2, h3, h4⟩
      · rintro (h | ⟨p, h1, h2, h3, h4⟩)
        · exact Or.inl (Or.inl h)
        · rcases Nat.lt_or_eq_of_le h1 with h5 | h5
          · exact Or.inr ⟨p, h5, h2, h3, h4⟩
          · subst h5; exact Or.inl (Or.inr ⟨h2, h4⟩)
theorem lp_reachM (k : Int → am_M → am_Rs) {M : am_M} (I : Ic M) (v : Nat) (hv : v ≤ 20) : ∀ (e n i : Nat) (x : Int), BS x (rc_ M i) → i + e = v → e < n → ∃ w, XL_X9_reachIn_53_1 k n v x i M = k w M ∧ BS w (rc_ M v) := by
  intro e
  induction e with
  | zero =>
    intro n i x hx hi hn
    obtain ⟨n, rfl⟩ : ∃ m, n = m + 1 := ⟨n - 1, by omega⟩
    refine ⟨x, ?_, by rw [← hi]; exact hx⟩
    rw [XL_X9_reachIn_53_1, XB_X9_reachIn_53_1, wI_of (x := (i : Int)) (by omega) (by omega), wI_of (x := (v : Int)) (by omega) (by omega), if_neg (by omega)]
  | succ e ih =>
    intro n i x hx hi hn
    have r0 := I.r0
    have rs := I.rs
    obtain ⟨n, rfl⟩ : ∃ m, n = m + 1 := ⟨n - 1, by omega⟩
    obtain ⟨y, y1, y2⟩ := lp_rM3 (XB_X9_reachIn_53_12 (XL_X9_reachIn_53_1 k n)) I (a := (v : Int)) (d := (i : Int)) hx (by omega) (M 11 0 + 1).toNat 1000 0 0 _ BS.z (by omega) (by omega)
    obtain ⟨w, w1, w2⟩ := ih n (i + 1) y (y2.c fun q _ => by
      constructor
      · rintro (h | ⟨p, -, h2, h3, h4⟩)
        · exact h.elim
        · exact ⟨p, h2, h3, h4⟩
      · rintro ⟨p, h2, h3, h4⟩
        exact Or.inr ⟨p, Nat.zero_le _, h2, h3, h4⟩) (by omega) (by omega)
    refine ⟨w, ?_, w2⟩
    rw [show ((0 : Nat) : Int) = 0 from rfl] at y1
    rw [XL_X9_reachIn_53_1, XB_X9_reachIn_53_1, wI_of (x := (i : Int)) (by omega) (by omega), wI_of (x := (v : Int)) (by omega) (by omega), if_pos (by omega), y1, XB_X9_reachIn_53_12]
    exact w1
theorem sp_reachM {M : am_M} (I : Ic M) (v : Nat) (hv : v ≤ 20) : ∃ w, X_X9_reachIn_53 v M = some (w, M) ∧ BS w (rc_ M v) := by
  have r1 := I.r1
  have rs := I.rs
  obtain ⟨w, w1, w2⟩ := lp_reachM XB_X9_reachIn_53_13 I v hv v 1000 0 (b_shl_ 1 (M 14 1)) (BS.one (by omega)) (by omega) (by omega)
  rw [show ((0 : Nat) : Int) = 0 from rfl] at w1
  exact ⟨w, by rw [X_X9_reachIn_53, XB_X9_reachIn_53_e, I.d1, w1]; rfl, w2⟩
theorem eq_reach {M : am_M} (I : Inv M) {n : Int} (hn : iR n) : Step (X_X8_reach_0 n) (X_X9_reach_53 n) M := gd_reach I hn fun h1 h2 => by
  obtain ⟨q, rfl⟩ := Int.eq_ofNat_of_zero_le h1.1
  have rs := I.rs
  obtain ⟨x, x1, x2⟩ := sp_reachC I.b.c q (by omega)
  obtain ⟨y, y1, y2⟩ := sp_reachM I.b.c q (by omega)
  refine st_same I (v := x) (w := y) ?_ ?_ (x2.w y2)
  · rw [X_X8_reach_0, sp_isPlan M hn, b2_t h1, ob]
    dsimp +instances only
    rw [if_neg (by decide), sp_hasNoLand I.g11, b2_f h2, ob]
    dsimp +instances only
    rw [if_pos wI_0, x1, ob]
  · rw [X_X9_reach_53, wI_R hn, sp_in M hn i0 i20, b2_t h1, ob]
    dsimp +instances only
    rw [if_neg (by decide), I.es, wI_of (x := M 11 0) (by omega) (by omega), if_neg h2, y1, ob]
end
