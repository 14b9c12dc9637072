theorem m_now {M : am_M} (I : Ib M) {i : Int} (hi : 0 ≤ i ∧ i < M 11 0) : X_X9_paysNow_53 i M = some (du_ M 0 i (M 14 1) + du_ M 1 i (M 14 1), M) := by
  have r1 := I.r1
  have rs := I.rs
  rw [X_X9_paysNow_53, I.d1, m_due0 I hi (by omega), ob]
  dsimp only
  rw [I.d1, m_due1 I hi (by omega), ob]
/-! Marks, dues now, moves that can be, which law holds. -/
theorem eq_mark {M : am_M} (I : Inv M) {i k : Int} (hi : iR i) (hk : iR k) : Step (X_X8_mark_0 i k) (X_X9_mark_53 i k) M := gd_mark I hi hk fun h1 h2 => by
  have hG := I.g11
  have rs := I.rs
  have r0 := I.r0
  have r1 := I.r1
  have es := I.es
  have hs : 0 ≤ M 53 1 ∧ M 53 1 ≤ 12 := ⟨I.gM.1, I.gM.2.1⟩
  have hi1 : 0 ≤ i ∧ i < M 53 1 := by rw [es]; exact h1
  have kd : M 55 i.toNat = M 12 i.toNat := I.kd (by omega)
  have s1 := sp_isOf_11 hG h1 h2
  have s2 := sp_isOf_53 I.gM hi1 h2
  rw [kd] at s2
  have dd0 := du_r I.b 0 i (M 14 1)
  have dd1 := du_r I.b 1 i (M 14 1)
  have c0 := c_both I.b h1 (b := M 14 1) (by omega)
  have m0 := m_now I.b h1
  have tt := sp_touches i (M 14 1) M hi (by unfold iR; omega) (by unfold iR; omega)
  have ta := sp_isAt (b := M 14 1) (i := i) M (by unfold iR; omega) hi (by unfold iR; omega)
  by_cases c : isk (M 12 i.toNat) k
  · rcases (show k = 1 ∨ k = 2 ∨ k = 3 ∨ k = 4 ∨ k = 5 by omega) with rfl | rfl | rfl | rfl | rfl
    · refine st_same I (v := du_ M 0 i (M 14 1) + du_ M 1 i (M 14 1)) (w := du_ M 0 i (M 14 1) + du_ M 1 i (M 14 1)) ?_ ?_ rfl
      · simp only [X_X8_mark_0, sp_has_11 hG hi, b2_t h1, ob, w1, n10, if_false, Int.reduceLT, Int.reduceAdd, Int.reduceEq, if_true, s1, b2_t c, c0]
      · simp only [X_X9_mark_53, sp_isStrip hs hi, b2_t hi1, ob, w1, n10, if_false, sp_in M hk i1 i5, b2_t h2, Int.reduceAdd, Int.reduceEq, s2, b2_t c, m0]
    · refine st_same I (v := if wI (b2 (M 14 1 = i ∨ M 14 1 = i + 1)) = 0 then 0 else 1) (w := if wI (b2 (M 14 1 = i ∨ M 14 1 = i + 1)) = 0 then 0 else 1) ?_ ?_ rfl
      · simp only [X_X8_mark_0, sp_has_11 hG hi, b2_t h1, ob, w1, n10, if_false, wI_2, Int.reduceLT, Int.reduceAdd, Int.reduceEq, if_true, s1, b2_t c, tt]
        split <;> rfl
      · simp only [X_X9_mark_53, sp_isStrip hs hi, b2_t hi1, ob, w1, n10, if_false, wI_2, sp_in M hk i1 i5, b2_t h2, Int.reduceAdd, Int.reduceEq, if_true, s2, b2_t c, I.d1, ta]
        split <;> rfl
    · refine st_same I (v := if wI ((wI (M 14 0)).tmod 2) = 0 then 1 else 0) (w := if wI ((wI (M 14 0)).tmod 2) = 0 then 1 else 0) ?_ ?_ rfl
      · simp only [X_X8_mark_0, sp_has_11 hG hi, b2_t h1, ob, w1, n10, if_false, show wI 3 = 3 from rfl, Int.reduceLT, Int.reduceAdd, Int.reduceEq, if_true, s1, b2_t c]
        split <;> rfl
      · simp only [X_X9_mark_53, sp_isStrip hs hi, b2_t hi1, ob, w1, n10, if_false, show wI 3 = 3 from rfl, sp_in M hk i1 i5, b2_t h2, Int.reduceAdd, Int.reduceEq, if_true, s2, b2_t c, I.d0]
        split <;> rfl
    · refine st_same I (v := (wI (du_ M 0 i (M 14 1) + du_ M 1 i (M 14 1))).tdiv 2) (w := (wI (du_ M 0 i (M 14 1) + du_ M 1 i (M 14 1))).tdiv 2) ?_ ?_ rfl
      · simp only [X_X8_mark_0, sp_has_11 hG hi, b2_t h1, ob, w1, n10, if_false, show wI 4 = 4 from rfl, Int.reduceLT, Int.reduceAdd, Int.reduceEq, if_true, s1, b2_t c, c0]
      · simp only [X_X9_mark_53, sp_isStrip hs hi, b2_t hi1, ob, w1, n10, if_false, show wI 4 = 4 from rfl, sp_in M hk i1 i5, b2_t h2, Int.reduceAdd, Int.reduceEq, if_true, s2, b2_t c, m0]
    · refine st_same I (v := du_ M 0 i (M 14 1) + du_ M 1 i (M 14 1)) (w := du_ M 0 i (M 14 1) + du_ M 1 i (M 14 1)) ?_ ?_ rfl
      · simp only [X_X8_mark_0, sp_has_11 hG hi, b2_t h1, ob, w1, n10, if_false, show wI 5 = 5 from rfl, Int.reduceLT, Int.reduceAdd, Int.reduceEq, if_true, s1, b2_t c, c0]
      · simp only [X_X9_mark_53, sp_isStrip hs hi, b2_t hi1, ob, w1, n10, if_false, show wI 5 = 5 from rfl, sp_in M hk i1 i5, b2_t h2, Int.reduceAdd, Int.reduceEq, s2, b2_t c, m0]
  · refine st_find I (f := 3) ?_ ?_
    · simp (disch := omega) only [X_X8_mark_0, sp_has_11 hG hi, b2_t h1, ob, w1, n10, if_false, wI_R hk, if_pos, s1, b2_f c, wI_0, if_true, f_c3]
    · have hs' : 0 ≤ (cF 3 M) 53 1 ∧ (cF 3 M) 53 1 ≤ 12 := hs
      have hG' : GdM (cF 3 M) := I.gM
      have s3 := sp_isOf_53 hG' hi1 h2
      have s4 : X_X9_isOf_53 i k (cF 3 M) = some (b2 (isk (M 12 i.toNat) k), cF 3 M) := by
        rw [s3]
        show some (b2 (isk (M 55 i.toNat) k), cF 3 M) = _
        rw [kd]
      simp (disch := omega) only [X_X9_mark_53, sp_isStrip hs' hi, b2_t (show 0 ≤ i ∧ i < (cF 3 M) 53 1 from hi1), ob, w1, n10, if_false, wI_R hk, sp_in _ hk i1 i5, b2_t h2, s4, b2_f c, wI_0, if_true, f_m3]
/-! what all strips would pay -/
noncomputable def dC_ (M : am_M) (c b : Int) : Int := sf (fun j => du_ M c j b) 0 (M 11 0).toNat
theorem lp_dc0 (k : Int → am_M → am_Rs) {M : am_M} (I : Ib M) (b : Int) (hb : 0 ≤ b ∧ b ≤ 12) : ∀ (d n : Nat) (acc : Int) (i : Nat), (i : Int) + d = M 11 0 → d < n → XL_X1_dueToCrown_14_11_1 k n 0 b acc i M = k (acc + sf (fun j => du_ M 0 j b) i d) M
  | 0, n + 1, acc, i, hi, hn => by
    have hh := I.rs
    simp (disch := omega) only [XL_X1_dueToCrown_14_11_1, XB_X1_dueToCrown_14_11_1, wI_of (x := (i : Int)), wI_of (x := M 11 0), if_neg, sf, Int.add_zero]
  | d + 1, n + 1, acc, i, hi, hn => by
    have hh := I.rs
    have ih := lp_dc0 k I b hb d n (acc + du_ M 0 i b) (i + 1) (by push_cast; omega) (by omega)
    rw [XL_X1_dueToCrown_14_11_1, XB_X1_dueToCrown_14_11_1, wI_of (x := (i : Int)) (by omega) (by omega), wI_of (x := M 11 0) (by omega) (by omega), if_pos (by omega), X_X1_rateOf_14, wI_0, if_pos rfl, ob]
    dsimp only
    rw [c_due0 I (by omega) hb, ob]
    simp only [sf]
    rw [← Int.add_assoc]
    exact ih
theorem lp_dc1 (k : Int → am_M → am_Rs) {M : am_M} (I : Ib M) (b : Int) (hb : 0 ≤ b ∧ b ≤ 12) : ∀ (d n : Nat) (acc : Int) (i : Nat), (i : Int) + d = M 11 0 → d < n → XL_X1_dueToCrown_14_11_1 k n 1 b acc i M = k (acc + sf (fun j => du_ M 1 j b) i d) M
  | 0, n + 1, acc, i, hi, hn => by
    have hh := I.rs
    simp (disch := omega) only [XL_X1_dueToCrown_14_11_1, XB_X1_dueToCrown_14_11_1, wI_of (x := (i : Int)), wI_of (x := M 11 0), if_neg, sf, Int.add_zero]
  | d + 1, n + 1, acc, i, hi, hn => by
    have hh := I.rs
    have ih := lp_dc1 k I b hb d n (acc + du_ M 1 i b) (i + 1) (by push_cast; omega) (by omega)
    rw [XL_X1_dueToCrown_14_11_1, XB_X1_dueToCrown_14_11_1, wI_of (x := (i : Int)) (by omega) (by omega), wI_of (x := M 11 0) (by omega) (by omega), if_pos (by omega), X_X1_rateOf_14, w1, if_neg (by decide), ob]
    dsimp only
    rw [c_due1 I (by omega) hb, ob]
    simp only [sf]
    rw [← Int.add_assoc]
    exact ih
theorem sp_dc {M : am_M} (I : Ib M) {c b : Int} (hc : c = 0 ∨ c = 1) (hb : 0 ≤ b ∧ b ≤ 12) : X_X1_dueToCrown_14_11 c b M = some (dC_ M c b, M) := by
  have hh := I.rs
  rw [X_X1_dueToCrown_14_11, XB_X1_dueToCrown_14_11_e]
  rcases hc with rfl | rfl
  · have := lp_dc0 XB_X1_dueToCrown_14_11_3 I b hb (M 11 0).toNat 1000 0 0 (by omega) (by omega)
    rw [show ((0 : Nat) : Int) = 0 from rfl, Int.zero_add] at this
    rw [this]; rfl
  · have := lp_dc1 XB_X1_dueToCrown_14_11_3 I b hb (M 11 0).toNat 1000 0 0 (by omega) (by omega)
    rw [show ((0 : Nat) : Int) = 0 from rfl, Int.zero_add] at this
    rw [this]; rfl
theorem lp_nowM (k : Int → am_M → am_Rs) {M N : am_M} (I : Inv M) (hN : ∀ c, c ≠ 0 → c ≠ 53 → N c = M c) (h53 : ∀ j, j ≠ 8 → N 53 j = M 53 j) : ∀ (d n : Nat) (a0 a1 : Int) (i : Nat), (i : Int) + d = M 11 0 → d < n → XL_X9_now_53_3 k n a0 i (am_up N 53 8 a1) = k (a0 + sf (fun j => du_ M 0 j (M 14 1)) i d) (am_up N 53 8 (a1 + sf (fun j => du_ M 1 j (M 14 1)) i d))
  | 0, n + 1, a0, a1, i, hi, hn => by
    have hh := I.rs
    have es : (am_up N 53 8 a1) 53 1 = M 11 0 := by rw [up_j (by decide), h53 1 (by decide), I.es]
    rw [XL_X9_now_53_3, XB_X9_now_53_3, es, wI_of (x := (i : Int)) (by omega) (by omega), wI_of (x := M 11 0) (by omega) (by omega), if_neg (by omega)]
    simp only [sf, Int.add_zero]
  | d + 1, n + 1, a0, a1, i, hi, hn => by
    have hh := I.rs
    have hb := I.r1
    have ih := lp_nowM k I hN h53 d n (a0 + du_ M 0 i (M 14 1)) (a1 + du_ M 1 i (M 14 1)) (i + 1) (by push_cast; omega) (by omega)
    have es : (am_up N 53 8 a1) 53 1 = M 11 0 := by rw [up_j (by decide), h53 1 (by decide), I.es]
    have g : ∀ c, c ≠ 0 → c ≠ 53 → (am_up N 53 8 a1) c = M c := fun c q0 q => by rw [up_a q, hN c q0 q]
    have gG : GdM (am_up N 53 8 a1) := by unfold GdM; rw [es, g 55 (by decide) (by decide), g 56 (by decide) (by decide)]; exact ⟨hh.1, hh.2, I.gM.2.2.1, I.gM.2.2.2⟩
    have p0 : X_X9_paysTo_53 i 0 (M 14 1) (M 14 2) (am_up N 53 8 a1) = some (du_ M 0 i (M 14 1), am_up N 53 8 a1) := by
      rw [sp_paysTo gG (by decide) (by omega) (by omega) I.r2, g 55 (by decide) (by decide), g 56 (by decide) (by decide), due_c (I.kd (by omega)) (I.du (by omega))]; rfl
    have p1 : X_X9_paysTo_53 i 1 (M 14 1) (M 14 3) (am_up N 53 8 a1) = some (du_ M 1 i (M 14 1), am_up N 53 8 a1) := by
      rw [sp_paysTo gG (by decide) (by omega) (by omega) I.r3, g 55 (by decide) (by decide), g 56 (by decide) (by decide), due_c (I.kd (by omega)) (I.du (by omega))]; rfl
    rw [XL_X9_now_53_3, XB_X9_now_53_3, es, wI_of (x := (i : Int)) (by omega) (by omega), wI_of (x := M 11 0) (by omega) (by omega), if_pos (by omega), g 54 (by decide) (by decide), I.d1, I.d2, p0, ob]
    dsimp only
    rw [g 54 (by decide) (by decide), I.d1, I.d3, p1, ob]
    dsimp only
    rw [up_s, show am_up (am_up N 53 8 a1) 53 8 (a1 + du_ M 1 i (M 14 1)) = am_up N 53 8 (a1 + du_ M 1 i (M 14 1)) by
      rw [up_row, up_row, row_row, up_row]
      refine congrArg (am_row N 53) (funext fun j => ?_)
      simp only [row_s]
      split <;> rfl]
    simp only [sf]
    rw [← Int.add_assoc, ← Int.add_assoc]
    exact ih
theorem eq_now {M : am_M} (I : Inv M) : Step X_X8_now_0 X_X9_now_53 M := gd_now I fun h => by
  have hG := I.g11
  have rs := I.rs
  have r1 := I.r1
  have hc : X_X8_now_0 M = some (dC_ M 0 (M 14 1), cT (dC_ M 1 (M 14 1)) M) := by
    rw [X_X8_now_0, sp_hasNoLand hG, b2_f h, ob]
    dsimp only
    rw [if_pos wI_0, sp_dc I.b (Or.inr rfl) (by omega), ob]
    dsimp only
    rw [sp_tell_0, ob]
    dsimp only
    have e2 : X_X1_dueToCrown_14_11 0 (M 14 1) (cT (dC_ M 1 (M 14 1)) M) = some (dC_ M 0 (M 14 1), cT (dC_ M 1 (M 14 1)) M) := sp_dc (Kb.ib I.b (Kb.ct M _)) (Or.inl rfl) (by omega)
    rw [show (cT (dC_ M 1 (M 14 1)) M) 14 1 = M 14 1 from rfl, e2, ob]
  have lm := lp_nowM XB_X9_now_53_5 (M := M) (N := cT (dC_ M 1 (M 14 1)) M) I (fun c q0 q => up_a q0) (fun j _ => rfl) (M 11 0).toNat 1000 0 0 0 (by omega) (by omega)
  rw [show ((0 : Nat) : Int) = 0 from rfl, Int.zero_add, Int.zero_add] at lm
  have hm : X_X9_now_53 (cT (dC_ M 1 (M 14 1)) M) = some (dC_ M 0 (M 14 1), mT (dC_ M 1 (M 14 1)) (cT (dC_ M 1 (M 14 1)) M)) := by
    rw [X_X9_now_53, XB_X9_now_53_e, show (cT (dC_ M 1 (M 14 1)) M) 53 1 = M 11 0 from I.es, wI_of (x := M 11 0) (by omega) (by omega), if_neg h, lm]; rfl
  exact ⟨_, _, _, _, hc, hm, rfl, inv_tell I _⟩
/-! moves that can be -/
theorem mvC (k : Int → am_M → am_Rs) {M : am_M} (n : Nat) (v m x : Int) (hm : ¬ 1 < wI m) (hx : X_X2_rudeness_11 (M 14 1) m (M 14 0) M = some (x, M)) (wx : wI x = x) : XL_X8_moves_0_3 k (n + 1) v m M = XL_X8_moves_0_3 k n (if x < 0 then v else b_or_ v (b_shl_ 1 (m + 1))) (m + 1) M := by
  rw [XL_X8_moves_0_3, XB_X8_moves_0_3, if_neg hm, hx, ob]
  dsimp only
  rw [wx]
  split <;> rfl
theorem mvM (k : Int → am_M → am_Rs) {M : am_M} (n : Nat) (v m x : Int) (hm : wI m < 2) (hx : X_X9_canBe_53 (M 54 1) (M 54 0) m M = some (b2 (x ≠ -1), M)) : XL_X9_moves_53_3 k (n + 1) v m M = XL_X9_moves_53_3 k n (b_or_ v (if x = -1 then 0 else b_shl_ 1 (m + 1))) (m + 1) M := by
  rw [XL_X9_moves_53_3, XB_X9_moves_53_3, if_pos hm, hx, ob]
  dsimp only
  by_cases c : x = -1
  · rw [b2_f (fun q => q c), if_pos wI_0, if_pos c]
  · rw [b2_t c, if_neg (by decide), if_neg c]
theorem eq_moves {M : am_M} (I : Inv M) : Step X_X8_moves_0 X_X9_moves_53 M := gd_moves I fun h => by
  have hG := I.g11
  have rs := I.rs
  have r0 := I.r0
  have r1 := I.r1
  have c1 := c_rud I.b (b := M 14 1) (m := -1) (d := M 14 0) r1 (by decide) (by omega)
  have c2 := c_rud I.b (b := M 14 1) (m := 0) (d := M 14 0) r1 (by decide) (by omega)
  have c3 := c_rud I.b (b := M 14 1) (m := 1) (d := M 14 0) r1 (by decide) (by omega)
  have m1 := m_can I.b (b := M 14 1) (m := -1) (d := M 14 0) r1 (by decide) (by omega)
  have m2 := m_can I.b (b := M 14 1) (m := 0) (d := M 14 0) r1 (by decide) (by omega)
  have m3 := m_can I.b (b := M 14 1) (m := 1) (d := M 14 0) r1 (by decide) (by omega)
  have q1 := mv_r M (M 14 1) (-1) (M 14 0)
  have q3 := mv_r M (M 14 1) 1 (M 14 0)
  rw [mv_0] at c2 m2
  generalize mv_ M (M 14 1) (-1) (M 14 0) = x1 at c1 m1 q1
  generalize mv_ M (M 14 1) 1 (M 14 0) = x3 at c3 m3 q3
  have hs : wI (M 53 1) ≠ 0 := by rw [I.es, wI_of (by omega) (by omega)]; exact h
  have e1 : XL_X8_moves_0_3 XB_X8_moves_0_7 1000 0 (-1) M = _ := mvC _ 999 0 (-1) x1 (by decide) c1 (wI_of (by omega) (by omega))
  have e2 : XL_X8_moves_0_3 XB_X8_moves_0_7 999 (if x1 < 0 then 0 else b_or_ 0 (b_shl_ 1 (-1 + 1))) (-1 + 1) M = _ := mvC _ 998 _ (-1 + 1) 0 (by decide) c2 rfl
  have e3 : XL_X8_moves_0_3 XB_X8_moves_0_7 998 (if (0 : Int) < 0 then (if x1 < 0 then 0 else b_or_ 0 (b_shl_ 1 (-1 + 1))) else b_or_ (if x1 < 0 then 0 else b_or_ 0 (b_shl_ 1 (-1 + 1))) (b_shl_ 1 (-1 + 1 + 1))) (-1 + 1 + 1) M = _ := mvC _ 997 _ (-1 + 1 + 1) x3 (by decide) c3 (wI_of (by omega) (by omega))
  rw [I.d0.symm, I.d1.symm] at m1 m2 m3
  have f1 : XL_X9_moves_53_3 XB_X9_moves_53_8 1000 0 (-1) M = _ := mvM _ 999 0 (-1) x1 (by decide) m1
  have f2 : XL_X9_moves_53_3 XB_X9_moves_53_8 999 (b_or_ 0 (if x1 = -1 then 0 else b_shl_ 1 (-1 + 1))) (-1 + 1) M = _ := mvM _ 998 _ (-1 + 1) 0 (by decide) m2
  have f3 : XL_X9_moves_53_3 XB_X9_moves_53_8 998 (b_or_ (b_or_ 0 (if x1 = -1 then 0 else b_shl_ 1 (-1 + 1))) (if (0 : Int) = -1 then 0 else b_shl_ 1 (-1 + 1 + 1))) (-1 + 1 + 1) M = _ := mvM _ 997 _ (-1 + 1 + 1) x3 (by decide) m3
  have hc : X_X8_moves_0 M = some (if x3 < 0 then (if (0 : Int) < 0 then (if x1 < 0 then 0 else b_or_ 0 (b_shl_ 1 (-1 + 1))) else b_or_ (if x1 < 0 then 0 else b_or_ 0 (b_shl_ 1 (-1 + 1))) (b_shl_ 1 (-1 + 1 + 1))) else b_or_ (if (0 : Int) < 0 then (if x1 < 0 then 0 else b_or_ 0 (b_shl_ 1 (-1 + 1))) else b_or_ (if x1 < 0 then 0 else b_or_ 0 (b_shl_ 1 (-1 + 1))) (b_shl_ 1 (-1 + 1 + 1))) (b_shl_ 1 (-1 + 1 + 1 + 1)), M) := by
    rw [X_X8_moves_0, XB_X8_moves_0_e, sp_hasNoLand hG, b2_f h, ob]
    dsimp only
    rw [if_pos wI_0, e1, e2, e3, XL_X8_moves_0_3, XB_X8_moves_0_3, if_pos (by decide), XB_X8_moves_0_7]
  have hm : X_X9_moves_53 M = some (b_or_ (b_or_ (b_or_ 0 (if x1 = -1 then 0 else b_shl_ 1 (-1 + 1))) (if (0 : Int) = -1 then 0 else b_shl_ 1 (-1 + 1 + 1))) (if x3 = -1 then 0 else b_shl_ 1 (-1 + 1 + 1 + 1)), M) := by
    rw [X_X9_moves_53, XB_X9_moves_53_e, if_neg hs, f1, f2, f3, XL_X9_moves_53_3, XB_X9_moves_53_3, if_neg (by decide), XB_X9_moves_53_8]
  refine st_same I hc hm ?_
  by_cases a1 : x1 = -1
  · by_cases a3 : x3 = -1
    · subst a1; subst a3; decide
    · rw [if_neg (show ¬ x3 < 0 by omega), if_neg a3]; subst a1; decide
  · by_cases a3 : x3 = -1
    · rw [if_neg (show ¬ x1 < 0 by omega), if_neg a1]; subst a3; decide
    · rw [if_neg (show ¬ x1 < 0 by omega), if_neg a1, if_neg (show ¬ x3 < 0 by omega), if_neg a3]; decide
/-! which law holds: the answers differ beyond day 40; both sides return and keep the invariant -/
theorem go_law {M : am_M} (I : Inv M) {i d : Int} (hi : iR i) (hd : iR d) : Go (X_X8_law_0 i d) (X_X9_law_53 i d) M := by
  have hG := I.g11
  have rs := I.rs
  have r0 := I.r0
  have es := I.es
  have hs : 0 ≤ M 53 1 ∧ M 53 1 ≤ 12 := ⟨I.gM.1, I.gM.2.1⟩
  have hM : ∀ (i d : Int), iR i → iR d → ∃ w M2, X_X9_law_53 i d M = some (w, M2) ∧ Inv M2 := by
    intro i d hi hd
    by_cases c0 : 0 ≤ i ∧ i < M 11 0
    · by_cases c1 : d < 0
      · refine ⟨-1, M, ?_, I⟩
        simp only [X_X9_law_53, sp_isStrip hs hi, es, b2_t c0, ob, w1, n10, if_false, wI_R hd, if_pos c1]
      · by_cases c2 : M 14 0 < d
        · refine ⟨-4, M, ?_, I⟩
          simp (disch := omega) only [X_X9_law_53, sp_isStrip hs hi, es, b2_t c0, ob, w1, n10, if_false, wI_R hd, I.d0, wI_of (x := M 14 0), if_neg c1, if_pos c2]
        · obtain ⟨n, rfl⟩ := Int.eq_ofNat_of_zero_le (show 0 ≤ d by omega)
          obtain ⟨M2, e1, k2⟩ := sp_lain I (n := n) (by omega)
          have I2 := Kp.inv I k2
          have h17 := I.2.2.2.2.1.2.2.1.2.2.1 n
          have k55 := I2.gM.2.2.1 i.toNat
          have ta := sp_isAt (b := M 17 n) (i := i) M2 (by unfold iR; omega) hi (by unfold iR; omega)
          have start : X_X9_law_53 i n M = (if wI (M2 55 i.toNat) = 5 then (X_X9_isAt (M 17 n) i M2).bind fun z3 => if wI z3.1 = 0 then (if i < wI (M 17 n) then some (1, z3.2) else some (2, z3.2)) else some (3, z3.2) else if i < wI (M 17 n) then some (1, M2) else some (2, M2)) := by
            simp (disch := omega) only [X_X9_law_53, sp_isStrip hs hi, es, b2_t c0, ob, w1, n10, if_false, wI_R hd, wI_R hi, I.d0, wI_of (x := M 14 0), if_neg, e1, if_pos]
          rw [start, ta, ob]
          dsimp only
          repeat' split
          all_goals exact ⟨_, _, rfl, I2⟩
    · refine ⟨-1, M, ?_, I⟩
      simp only [X_X9_law_53, sp_isStrip hs hi, es, b2_f c0, ob, wI_0, if_true]
  obtain ⟨w, M2, e2, I2⟩ := hM i d hi hd
  have hC : ∃ v, X_X8_law_0 i d M = some (v, M) := by
    by_cases c0 : 0 ≤ i ∧ i < M 11 0
    · by_cases c1 : d < 0
      · refine ⟨-1, ?_⟩
        simp only [X_X8_law_0, sp_has_11 hG hi, b2_t c0, ob, w1, n10, if_false, wI_R hd, if_pos c1]
      · by_cases c3 : 40 < d
        · refine ⟨-1, ?_⟩
          simp only [X_X8_law_0, sp_has_11 hG hi, b2_t c0, ob, w1, n10, if_false, wI_R hd, if_neg c1, if_pos c3]
        · by_cases c2 : M 14 0 < d
          · refine ⟨-4, ?_⟩
            simp (disch := omega) only [X_X8_law_0, sp_has_11 hG hi, b2_t c0, ob, w1, n10, if_false, wI_R hd, wI_of (x := M 14 0), if_neg c1, if_neg c3, if_pos c2]
          · obtain ⟨n, rfl⟩ := Int.eq_ofNat_of_zero_le (show 0 ≤ d by omega)
            have h17 := I.2.2.2.2.1.2.2.1.2.2.1 n
            have tt := sp_touches i (M 17 n) M hi (by unfold iR; omega) (by unfold iR; omega)
            have cc := sp_crownOf i (M 17 n) M hi (by unfold iR; omega)
            simp (disch := omega) only [X_X8_law_0, sp_has_11 hG hi, b2_t c0, ob, w1, n10, if_false, wI_R hd, wI_of (x := M 14 0), if_neg, sp_ahead I (n := n) (show (n : Int) ≤ M 14 0 by omega), sp_isOf_11 hG c0 (show (1 : Int) ≤ 5 ∧ (5 : Int) ≤ 5 by decide), tt, cc]
            repeat' split
            all_goals exact ⟨_, rfl⟩
    · refine ⟨-1, ?_⟩
      simp only [X_X8_law_0, sp_has_11 hG hi, b2_f c0, ob, wI_0, if_true]
  obtain ⟨v, e1⟩ := hC
  exact ⟨v, w, M, M2, e1, e2, I2⟩
