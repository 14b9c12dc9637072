/-! p1: one call on a fresh object. -/
def Ans (X Y : am_M → am_Rs) (M : am_M) : Prop := ∃ v w M1 M2, X M = some (v, M1) ∧ Y M1 = some (w, M2) ∧ wI v = wI w
def AnsL (X Y : am_M → am_Rs) (M : am_M) : Prop := ∃ v w M1 M2, X M = some (v, M1) ∧ Y M1 = some (w, M2) ∧ wL v = wL w
theorem Step.ans {X Y : am_M → am_Rs} {M : am_M} (h : Step X Y M) : Ans X Y M := by
  obtain ⟨v, w, M1, M2, a, b, c, -⟩ := h
  exact ⟨v, w, M1, M2, a, b, c⟩
theorem StepL.ans {X Y : am_M → am_Rs} {M : am_M} (h : StepL X Y M) : AnsL X Y M := by
  obtain ⟨v, w, M1, M2, a, b, c, -⟩ := h
  exact ⟨v, w, M1, M2, a, b, c⟩
theorem m0_11 : M0 11 0 = 0 := by rw [z_11]
theorem m0_14 : M0 14 0 = 0 := by rw [z_14]
theorem m0_14b : M0 14 1 = 0 := by rw [z_14]
theorem m0_2 (r : Nat) (h : r < 6) : M0 2 r = -1 := by rw [z_2]; exact if_pos h
theorem m0_5 (r : Nat) (h : r < 4) : M0 5 r = -1 := by rw [z_5]; exact if_pos h
theorem m0_35 (r : Nat) (h : r < 3) : M0 35 r = -1 := by rw [z_35]; exact if_pos h
theorem ly0 (M : am_M) : ∃ M', X_X9_layAhead_53 0 M = some (0, M') ∧ M' 54 485 = M 54 120 := by
  have c := sp_copyLand (M := M) (a := 0) (b := 484) (by omega) (by omega) (by omega)
  rw [show ((0 : Nat) : Int) = 0 from rfl, show ((484 : Nat) : Int) = 484 from rfl] at c
  rw [X_X9_layAhead_53, XB_X9_layAhead_53_e, c, ob]
  dsimp only
  have l := lp_lay1 (XB_X9_layAhead_53_3 (XL_X9_layAhead_53_4 XB_X9_layAhead_53_6 1000)) 0 40 1000 (am_row M 54 fun j => if 484 ≤ j ∧ j < 484 + 121 then M 54 (0 + (j - 484)) else M 54 j) 0 (by omega) (by omega)
  rw [show ((0 : Nat) : Int) = 0 from rfl] at l
  rw [l, row_row, XB_X9_layAhead_53_3, XL_X9_layAhead_53_4, XB_X9_layAhead_53_4, if_neg (by omega), XB_X9_layAhead_53_6]
  refine ⟨_, rfl, ?_⟩
  rw [up_j (by decide), up_j (by decide), up_s, row_s]
  (try dsimp only)
  rw [if_neg (by omega), row_s]
  (try dsimp only)
  rw [if_neg (by omega)]
theorem a_lain {n : Int} (hn : iR n) : Ans (X_X8_lain_0 n) (X_X9_lain_53 n) M0 := by
  by_cases c : n = 0
  · subst c
    obtain ⟨M', h1, h2⟩ := ly0 M0
    have e54 : M0 54 0 = 0 := by rw [z_54]; rfl
    refine ⟨0, 0, M0, M', ?_, ?_, rfl⟩
    · rw [X_X8_lain_0, m0_14, if_neg (by decide), if_neg (by decide), X_X1_borderAhead_14, if_neg (by decide), if_neg (by decide), if_pos (by decide), ob, z_17]
    · rw [X_X9_lain_53, e54, wI_0, sp_in M0 i0 i0 i0, b2_t (by decide), ob, if_neg (by rw [w1]; decide), h1, ob]
      dsimp only
      rw [h2, z_54]; rfl
  · exact (gd_lain M0_inv hn (fun h => by rw [m0_14] at h; exact absurd (show n = 0 by omega) c)).ans
theorem a_undo {n : Int} (hn : iR n) : Ans (X_X8_undo_0 n) (X_X9_undo_53 n) M0 := by
  by_cases c : n = 0
  · subst c
    have e54 : M0 54 0 = 0 := by rw [z_54]; rfl
    have hx : X_X8_undo_0 0 M0 = some (0 - 0, am_up (am_up M0 14 1 (M0 17 0)) 14 0 0) := by
      have b : X_X1_borderAhead_14 0 M0 = some (M0 17 0, M0) := by
        rw [X_X1_borderAhead_14, if_neg (by decide), if_neg (by decide), if_pos (by decide), wI_0, Int.toNat_zero]
      have g : X_X1_goBackTo_14 0 M0 = some (0, am_up (am_up M0 14 1 (M0 17 0)) 14 0 0) := by
        rw [X_X1_goBackTo_14, m0_14, if_neg (by decide), if_neg (by decide), b, ob]
      rw [X_X8_undo_0, m0_14, if_neg (by decide), if_neg (by decide), g, ob]
    have e54' : (am_up (am_up M0 14 1 (M0 17 0)) 14 0 0) 54 0 = 0 := by rw [up_a (by decide), up_a (by decide), e54]
    obtain ⟨M', h1, h2⟩ := ly0 (am_up (am_up M0 14 1 (M0 17 0)) 14 0 0)
    have c2 := sp_copyLand (M := M') (a := 484) (b := 0) (by omega) (by omega) (by omega)
    rw [show ((0 : Nat) : Int) = 0 from rfl, show ((484 : Nat) : Int) = 484 from rfl] at c2
    obtain ⟨N, hN⟩ : ∃ N, X_X9_copyLand_53 484 0 M' = some (0, N) := ⟨_, c2⟩
    refine ⟨0 - 0, 0 - 0, _, N, hx, ?_, rfl⟩
    rw [X_X9_undo_53, e54', wI_0, sp_in _ i0 i0 i0, b2_t (by decide), ob, if_neg (by rw [w1]; decide), h1, ob]
    dsimp only
    rw [hN, ob, e54']
  · exact (gd_undo M0_inv hn (fun h => by rw [m0_14] at h; exact absurd (show n = 0 by omega) c)).ans
theorem p1_fin {xs : Nat → Int} (M : am_M) : LwB 6 xs 99 0 M M := lw_step (lw_head0 M (by decide))
theorem p1_hi : ∀ k : Int, 0 ≤ k → k < 6 → 0 ≤ wI (0 + k) ∧ wI (0 + k) < (6 : Nat) := fun k h1 h2 => by
  rw [wI_of (by omega) (by omega)]; omega
theorem p1_row {xs : Nat → Int} (hx : ∀ j, iR (xs j)) : ∃ M', LwB 6 xs 3 0 M0 M' := by
  obtain ⟨v, w, M1, M2, a, b, c⟩ := (show Ans (X_X8_row_0 (xs (wI (0 + 1)).toNat) (xs (wI (0 + 2)).toNat)) (X_X9_row_53 (xs (wI (0 + 1)).toNat) (xs (wI (0 + 2)).toNat)) M0 from (eq_row M0_inv (hx _) (hx _)).ans)
  exact ⟨M2, lw_row p1_hi a b c (p1_fin M2)⟩
theorem p1_lay {xs : Nat → Int} (hx : ∀ j, iR (xs j)) : ∃ M', LwB 6 xs 5 0 M0 M' := by
  obtain ⟨v, w, M1, M2, a, b, c⟩ := (show Ans (X_X8_lay_0 (xs (wI (0 + 1)).toNat) (xs (wI (0 + 2)).toNat) (xs (wI (0 + 3)).toNat)) (X_X9_lay_53 (xs (wI (0 + 1)).toNat) (xs (wI (0 + 2)).toNat) (xs (wI (0 + 3)).toNat)) M0 from (eq_lay M0_inv (hx _) (hx _) (hx _)).ans)
  exact ⟨M2, lw_lay p1_hi a b c (p1_fin M2)⟩
theorem p1_at {xs : Nat → Int} (hx : ∀ j, iR (xs j)) : ∃ M', LwB 6 xs 7 0 M0 M' := by
  obtain ⟨v, w, M1, M2, a, b, c⟩ := (show Ans (X_X8_at_0 (xs (wI (0 + 1)).toNat) (xs (wI (0 + 2)).toNat)) (X_X9_at_53 (xs (wI (0 + 1)).toNat) (xs (wI (0 + 2)).toNat)) M0 from (eq_at M0_inv (hx _) (hx _)).ans)
  exact ⟨M2, lw_at p1_hi a b c (p1_fin M2)⟩
theorem p1_tear {xs : Nat → Int} (hx : ∀ j, iR (xs j)) : ∃ M', LwB 6 xs 9 0 M0 M' := by
  obtain ⟨v, w, M1, M2, a, b, c⟩ := (show Ans (X_X8_tear_0 (xs (wI (0 + 1)).toNat)) (X_X9_tear_53 (xs (wI (0 + 1)).toNat)) M0 from (eq_tear M0_inv (hx _)).ans)
  exact ⟨M2, lw_tear p1_hi a b c (p1_fin M2)⟩
theorem p1_copy {xs : Nat → Int} (hx : ∀ j, iR (xs j)) : ∃ M', LwB 6 xs 11 0 M0 M' := by
  obtain ⟨v, w, M1, M2, a, b, c⟩ := (show Ans (X_X8_copy_0 (xs (wI (0 + 1)).toNat) (xs (wI (0 + 2)).toNat) (xs (wI (0 + 3)).toNat) (xs (wI (0 + 4)).toNat) (xs (wI (0 + 5)).toNat)) (X_X9_copy_53 (xs (wI (0 + 1)).toNat) (xs (wI (0 + 2)).toNat) (xs (wI (0 + 3)).toNat) (xs (wI (0 + 4)).toNat) (xs (wI (0 + 5)).toNat)) M0 from (eq_copy M0_inv (hx _) (hx _) (hx _) (hx _) (hx _)).ans)
  exact ⟨M2, lw_copy p1_hi a b c (p1_fin M2)⟩
theorem p1_mean {xs : Nat → Int} (hx : ∀ j, iR (xs j)) : ∃ M', LwB 6 xs 13 0 M0 M' := by
  obtain ⟨v, w, M1, M2, a, b, c⟩ := (show Ans (X_X8_mean_0 (xs (wI (0 + 1)).toNat)) (X_X9_mean_53 (xs (wI (0 + 1)).toNat)) M0 from (eq_mean M0_inv (hx _)).ans)
  exact ⟨M2, lw_mean p1_hi a b c (p1_fin M2)⟩
theorem p1_text {xs : Nat → Int} (hx : ∀ j, iR (xs j)) : ∃ M', LwB 6 xs 15 0 M0 M' := by
  obtain ⟨v, w, M1, M2, a, b, c⟩ := (show Ans (X_X8_text_0 (xs (wI (0 + 1)).toNat) (xs (wI (0 + 2)).toNat)) (X_X9_text_53 (xs (wI (0 + 1)).toNat) (xs (wI (0 + 2)).toNat)) M0 from (eq_text M0_inv (hx _) (hx _)).ans)
  exact ⟨M2, lw_text p1_hi a b c (p1_fin M2)⟩
theorem p1_put {xs : Nat → Int} (hx : ∀ j, iR (xs j)) : ∃ M', LwB 6 xs 17 0 M0 M' := by
  obtain ⟨v, w, M1, M2, a, b, c⟩ := (show Ans (X_X8_put_0 (xs (wI (0 + 1)).toNat) (xs (wI (0 + 2)).toNat) (xs (wI (0 + 3)).toNat)) (X_X9_put_53 (xs (wI (0 + 1)).toNat) (xs (wI (0 + 2)).toNat) (xs (wI (0 + 3)).toNat)) M0 from (eq_put M0_inv (hx _) (hx _)).ans)
  exact ⟨M2, lw_put p1_hi a b c (p1_fin M2)⟩
theorem p1_fault {xs : Nat → Int} (hx : ∀ j, iR (xs j)) : ∃ M', LwB 6 xs 19 0 M0 M' := by
  obtain ⟨v, w, M1, M2, a, b, c⟩ := (show Ans (X_X8_fault_0 (xs (wI (0 + 1)).toNat)) (X_X9_fault_53 (xs (wI (0 + 1)).toNat)) M0 from (gd_fault M0_inv (hx _) (fun c h => by rw [m0_5 _ (by omega)] at h; omega)).ans)
  exact ⟨M2, lw_fault p1_hi a b c (p1_fin M2)⟩
theorem p1_land {xs : Nat → Int} (hx : ∀ j, iR (xs j)) : ∃ M', LwB 6 xs 21 0 M0 M' := by
  obtain ⟨v, w, M1, M2, a, b, c⟩ := (show Ans (X_X8_land_0 (xs (wI (0 + 1)).toNat)) (X_X9_land_53 (xs (wI (0 + 1)).toNat)) M0 from (gd_land M0_inv (hx _) (fun c h => by rw [m0_5 _ (by omega)] at h; omega)).ans)
  exact ⟨M2, lw_land p1_hi a b c (p1_fin M2)⟩
theorem p1_strip {xs : Nat → Int} (hx : ∀ j, iR (xs j)) : ∃ M', LwB 6 xs 23 0 M0 M' := by
  obtain ⟨v, w, M1, M2, a, b, c⟩ := (show Ans (X_X8_strip_0 (xs (wI (0 + 1)).toNat) (xs (wI (0 + 2)).toNat)) (X_X9_strip_53 (xs (wI (0 + 1)).toNat) (xs (wI (0 + 2)).toNat)) M0 from (eq_strip M0_inv (hx _) (hx _)).ans)
  exact ⟨M2, lw_strip p1_hi a b c (p1_fin M2)⟩
theorem p1_mark {xs : Nat → Int} (hx : ∀ j, iR (xs j)) : ∃ M', LwB 6 xs 25 0 M0 M' := by
  obtain ⟨v, w, M1, M2, a, b, c⟩ := (show Ans (X_X8_mark_0 (xs (wI (0 + 1)).toNat) (xs (wI (0 + 2)).toNat)) (X_X9_mark_53 (xs (wI (0 + 1)).toNat) (xs (wI (0 + 2)).toNat)) M0 from (gd_mark M0_inv (hx _) (hx _) (fun h => by rw [m0_11] at h; omega)).ans)
  exact ⟨M2, lw_mark p1_hi a b c (p1_fin M2)⟩
theorem p1_rate {xs : Nat → Int} (hx : ∀ j, iR (xs j)) : ∃ M', LwB 6 xs 27 0 M0 M' := by
  obtain ⟨v, w, M1, M2, a, b, c⟩ := (show Ans (X_X8_rate_0 (xs (wI (0 + 1)).toNat) (xs (wI (0 + 2)).toNat)) (X_X9_rate_53 (xs (wI (0 + 1)).toNat) (xs (wI (0 + 2)).toNat)) M0 from (eq_rate M0_inv (hx _) (hx _)).ans)
  exact ⟨M2, lw_rate p1_hi a b c (p1_fin M2)⟩
theorem p1_day {xs : Nat → Int} (hx : ∀ j, iR (xs j)) : ∃ M', LwB 6 xs 29 0 M0 M' := by
  obtain ⟨v, w, M1, M2, a, b, c⟩ := (show Ans (X_X8_day_0 (xs (wI (0 + 1)).toNat) (xs (wI (0 + 2)).toNat)) (X_X9_day_53 (xs (wI (0 + 1)).toNat) (xs (wI (0 + 2)).toNat)) M0 from (gd_day M0_inv (hx _) (hx _) (fun _ _ h => absurd m0_11 h)).ans)
  exact ⟨M2, lw_day p1_hi a b c (p1_fin M2)⟩
theorem p1_undo {xs : Nat → Int} (hx : ∀ j, iR (xs j)) : ∃ M', LwB 6 xs 31 0 M0 M' := by
  obtain ⟨v, w, M1, M2, a, b, c⟩ := (show Ans (X_X8_undo_0 (xs (wI (0 + 1)).toNat)) (X_X9_undo_53 (xs (wI (0 + 1)).toNat)) M0 from a_undo (hx _))
  exact ⟨M2, lw_undo p1_hi a b c (p1_fin M2)⟩
theorem p1_border {xs : Nat → Int} (hx : ∀ j, iR (xs j)) : ∃ M', LwB 6 xs 33 0 M0 M' := by
  obtain ⟨v, w, M1, M2, a, b, c⟩ := (show Ans (X_X8_border_0) (X_X9_border_53) M0 from (eq_border M0_inv).ans)
  exact ⟨M2, lw_border p1_hi a b c (p1_fin M2)⟩
theorem p1_lain {xs : Nat → Int} (hx : ∀ j, iR (xs j)) : ∃ M', LwB 6 xs 35 0 M0 M' := by
  obtain ⟨v, w, M1, M2, a, b, c⟩ := (show Ans (X_X8_lain_0 (xs (wI (0 + 1)).toNat)) (X_X9_lain_53 (xs (wI (0 + 1)).toNat)) M0 from a_lain (hx _))
  exact ⟨M2, lw_lain p1_hi a b c (p1_fin M2)⟩
theorem p1_got {xs : Nat → Int} (hx : ∀ j, iR (xs j)) : ∃ M', LwB 6 xs 37 0 M0 M' := by
  obtain ⟨v, w, M1, M2, a, b, c⟩ := (show Ans (X_X8_got_0 (xs (wI (0 + 1)).toNat)) (X_X9_got_53 (xs (wI (0 + 1)).toNat)) M0 from (eq_got M0_inv (hx _)).ans)
  exact ⟨M2, lw_got p1_hi a b c (p1_fin M2)⟩
theorem p1_keep {xs : Nat → Int} (hx : ∀ j, iR (xs j)) : ∃ M', LwB 6 xs 39 0 M0 M' := by
  obtain ⟨v, w, M1, M2, a, b, c⟩ := (show Ans (X_X8_keep_0 (xs (wI (0 + 1)).toNat)) (X_X9_keep_53 (xs (wI (0 + 1)).toNat)) M0 from (gd_keep M0_inv (hx _) (fun _ h => absurd m0_11 h)).ans)
  exact ⟨M2, lw_keep p1_hi a b c (p1_fin M2)⟩
theorem p1_on {xs : Nat → Int} (hx : ∀ j, iR (xs j)) : ∃ M', LwB 6 xs 41 0 M0 M' := by
  obtain ⟨v, w, M1, M2, a, b, c⟩ := (show Ans (X_X8_on_0 (xs (wI (0 + 1)).toNat)) (X_X9_on_53 (xs (wI (0 + 1)).toNat)) M0 from (gd_on M0_inv (hx _) (fun c h => by rw [m0_35 _ (by omega)] at h; omega)).ans)
  exact ⟨M2, lw_on p1_hi a b c (p1_fin M2)⟩
theorem p1_moves {xs : Nat → Int} (hx : ∀ j, iR (xs j)) : ∃ M', LwB 6 xs 43 0 M0 M' := by
  obtain ⟨v, w, M1, M2, a, b, c⟩ := (show Ans (X_X8_moves_0) (X_X9_moves_53) M0 from (gd_moves M0_inv (fun h => absurd m0_11 h)).ans)
  exact ⟨M2, lw_moves p1_hi a b c (p1_fin M2)⟩
theorem p1_judge {xs : Nat → Int} (hx : ∀ j, iR (xs j)) : ∃ M', LwB 6 xs 45 0 M0 M' := by
  obtain ⟨v, w, M1, M2, a, b, c⟩ := (show Ans (X_X8_judge_0 (xs (wI (0 + 1)).toNat)) (X_X9_judge_53 (xs (wI (0 + 1)).toNat)) M0 from (gd_judge M0_inv (hx _) (fun _ h => absurd m0_11 h)).ans)
  exact ⟨M2, lw_judge p1_hi a b c (p1_fin M2)⟩
theorem p1_rude {xs : Nat → Int} (hx : ∀ j, iR (xs j)) : ∃ M', LwB 6 xs 47 0 M0 M' := by
  obtain ⟨v, w, M1, M2, a, b, c⟩ := (show Ans (X_X8_rude_0 (xs (wI (0 + 1)).toNat)) (X_X9_rude_53 (xs (wI (0 + 1)).toNat)) M0 from (gd_rude M0_inv (hx _) (fun _ h => absurd m0_11 h)).ans)
  exact ⟨M2, lw_rude p1_hi a b c (p1_fin M2)⟩
theorem p1_pays {xs : Nat → Int} (hx : ∀ j, iR (xs j)) : ∃ M', LwB 6 xs 49 0 M0 M' := by
  obtain ⟨v, w, M1, M2, a, b, c⟩ := (show Ans (X_X8_pays_0 (xs (wI (0 + 1)).toNat) (xs (wI (0 + 2)).toNat)) (X_X9_pays_53 (xs (wI (0 + 1)).toNat) (xs (wI (0 + 2)).toNat)) M0 from (gd_pays M0_inv (hx _) (hx _) (fun h => by rw [m0_11] at h; omega)).ans)
  exact ⟨M2, lw_pays p1_hi a b c (p1_fin M2)⟩
theorem p1_soonest {xs : Nat → Int} (hx : ∀ j, iR (xs j)) : ∃ M', LwB 6 xs 51 0 M0 M' := by
  obtain ⟨v, w, M1, M2, a, b, c⟩ := (show Ans (X_X8_soonest_0 (xs (wI (0 + 1)).toNat) (xs (wI (0 + 2)).toNat)) (X_X9_soonest_53 (xs (wI (0 + 1)).toNat) (xs (wI (0 + 2)).toNat)) M0 from (gd_soonest M0_inv (hx _) (hx _) (fun _ _ h => absurd m0_11 h)).ans)
  exact ⟨M2, lw_soonest p1_hi a b c (p1_fin M2)⟩
theorem p1_polite {xs : Nat → Int} (hx : ∀ j, iR (xs j)) : ∃ M', LwB 6 xs 53 0 M0 M' := by
  obtain ⟨v, w, M1, M2, a, b, c⟩ := (show Ans (X_X8_polite_0 (xs (wI (0 + 1)).toNat) (xs (wI (0 + 2)).toNat) (xs (wI (0 + 3)).toNat)) (X_X9_polite_53 (xs (wI (0 + 1)).toNat) (xs (wI (0 + 2)).toNat) (xs (wI (0 + 3)).toNat)) M0 from (gd_polite M0_inv (hx _) (hx _) (hx _) (fun _ _ _ h => absurd m0_11 h)).ans)
  exact ⟨M2, lw_polite p1_hi a b c (p1_fin M2)⟩
theorem p1_ways {xs : Nat → Int} (hx : ∀ j, iR (xs j)) : ∃ M', LwB 6 xs 55 0 M0 M' := by
  obtain ⟨v, w, M1, M2, a, b, c⟩ := (show Ans (X_X8_ways_0 (xs (wI (0 + 1)).toNat) (xs (wI (0 + 2)).toNat)) (X_X9_ways_53 (xs (wI (0 + 1)).toNat) (xs (wI (0 + 2)).toNat)) M0 from (gd_ways M0_inv (hx _) (hx _) (fun _ _ h => absurd m0_11 h)).ans)
  exact ⟨M2, lw_ways p1_hi a b c (p1_fin M2)⟩
theorem p1_reach {xs : Nat → Int} (hx : ∀ j, iR (xs j)) : ∃ M', LwB 6 xs 57 0 M0 M' := by
  obtain ⟨v, w, M1, M2, a, b, c⟩ := (show Ans (X_X8_reach_0 (xs (wI (0 + 1)).toNat)) (X_X9_reach_53 (xs (wI (0 + 1)).toNat)) M0 from (gd_reach M0_inv (hx _) (fun _ h => absurd m0_11 h)).ans)
  exact ⟨M2, lw_reach p1_hi a b c (p1_fin M2)⟩
theorem p1_least {xs : Nat → Int} (hx : ∀ j, iR (xs j)) : ∃ M', LwB 6 xs 59 0 M0 M' := by
  obtain ⟨v, w, M1, M2, a, b, c⟩ := (show Ans (X_X8_least_0 (xs (wI (0 + 1)).toNat) (xs (wI (0 + 2)).toNat) (xs (wI (0 + 3)).toNat)) (X_X9_least_53 (xs (wI (0 + 1)).toNat) (xs (wI (0 + 2)).toNat) (xs (wI (0 + 3)).toNat)) M0 from (gd_least M0_inv (hx _) (hx _) (hx _) (fun h => by rw [m0_11] at h; omega)).ans)
  exact ⟨M2, lw_least p1_hi a b c (p1_fin M2)⟩
theorem p1_most {xs : Nat → Int} (hx : ∀ j, iR (xs j)) : ∃ M', LwB 6 xs 61 0 M0 M' := by
  obtain ⟨v, w, M1, M2, a, b, c⟩ := (show Ans (X_X8_most_0 (xs (wI (0 + 1)).toNat) (xs (wI (0 + 2)).toNat)) (X_X9_most_53 (xs (wI (0 + 1)).toNat) (xs (wI (0 + 2)).toNat)) M0 from (gd_most M0_inv (hx _) (hx _) (fun _ _ h => absurd m0_11 h)).ans)
  exact ⟨M2, lw_most p1_hi a b c (p1_fin M2)⟩
theorem p1_now {xs : Nat → Int} (hx : ∀ j, iR (xs j)) : ∃ M', LwB 6 xs 63 0 M0 M' := by
  obtain ⟨v, w, M1, M2, a, b, c⟩ := (show Ans (X_X8_now_0) (X_X9_now_53) M0 from (gd_now M0_inv (fun h => absurd m0_11 h)).ans)
  exact ⟨M2, lw_now p1_hi a b c (p1_fin M2)⟩
theorem p1_odds {xs : Nat → Int} (hx : ∀ j, iR (xs j)) : ∃ M', LwB 6 xs 65 0 M0 M' := by
  obtain ⟨v, w, M1, M2, a, b, c⟩ := (show Ans (X_X8_odds_0 (xs (wI (0 + 1)).toNat) (xs (wI (0 + 2)).toNat)) (X_X9_odds_53 (xs (wI (0 + 1)).toNat) (xs (wI (0 + 2)).toNat)) M0 from (gd_odds M0_inv (hx _) (hx _) (fun _ _ h => absurd m0_11 h)).ans)
  exact ⟨M2, lw_odds p1_hi a b c (p1_fin M2)⟩
theorem p1_met {xs : Nat → Int} (hx : ∀ j, iR (xs j)) : ∃ M', LwB 6 xs 67 0 M0 M' := by
  obtain ⟨v, w, M1, M2, a, b, c⟩ := (show Ans (X_X8_met_0 (xs (wI (0 + 1)).toNat) (xs (wI (0 + 2)).toNat)) (X_X9_met_53 (xs (wI (0 + 1)).toNat) (xs (wI (0 + 2)).toNat)) M0 from (gd_met M0_inv (hx _) (hx _) (fun _ _ h => absurd m0_11 h)).ans)
  exact ⟨M2, lw_met p1_hi a b c (p1_fin M2)⟩
theorem p1_hedge {xs : Nat → Int} (hx : ∀ j, iR (xs j)) : ∃ M', LwB 6 xs 69 0 M0 M' := by
  obtain ⟨v, w, M1, M2, a, b, c⟩ := (show Ans (X_X8_hedge_0 (xs (wI (0 + 1)).toNat) (xs (wI (0 + 2)).toNat)) (X_X9_hedge_53 (xs (wI (0 + 1)).toNat) (xs (wI (0 + 2)).toNat)) M0 from (gd_hedge M0_inv (hx _) (hx _) (fun h => by rw [m0_11] at h; omega)).ans)
  exact ⟨M2, lw_hedge p1_hi a b c (p1_fin M2)⟩
theorem p1_game {xs : Nat → Int} (hx : ∀ j, iR (xs j)) : ∃ M', LwB 6 xs 71 0 M0 M' := by
  obtain ⟨v, w, M1, M2, a, b, c⟩ := (show Ans (X_X8_game_0 (xs (wI (0 + 1)).toNat) (xs (wI (0 + 2)).toNat)) (X_X9_game_53 (xs (wI (0 + 1)).toNat) (xs (wI (0 + 2)).toNat)) M0 from (gd_game M0_inv (hx _) (hx _) (fun _ h => absurd m0_11 h)).ans)
  exact ⟨M2, lw_game p1_hi a b c (p1_fin M2)⟩
theorem p1_said {xs : Nat → Int} (hx : ∀ j, iR (xs j)) : ∃ M', LwB 6 xs 73 0 M0 M' := by
  obtain ⟨v, w, M1, M2, a, b, c⟩ := (show Ans (X_X8_said_0 (xs (wI (0 + 1)).toNat) (xs (wI (0 + 2)).toNat)) (X_X9_said_53 (xs (wI (0 + 1)).toNat) (xs (wI (0 + 2)).toNat)) M0 from (gd_said M0_inv (hx _) (hx _) (fun _ h => absurd m0_11 h)).ans)
  exact ⟨M2, lw_said p1_hi a b c (p1_fin M2)⟩
theorem p1_calm {xs : Nat → Int} (hx : ∀ j, iR (xs j)) : ∃ M', LwB 6 xs 75 0 M0 M' := by
  obtain ⟨v, w, M1, M2, a, b, c⟩ := (show Ans (X_X8_calm_0 (xs (wI (0 + 1)).toNat) (xs (wI (0 + 2)).toNat)) (X_X9_calm_53 (xs (wI (0 + 1)).toNat) (xs (wI (0 + 2)).toNat)) M0 from (gd_calm M0_inv (hx _) (hx _) (fun _ h => absurd m0_11 h)).ans)
  exact ⟨M2, lw_calm p1_hi a b c (p1_fin M2)⟩
theorem p1_law {xs : Nat → Int} (hx : ∀ j, iR (xs j)) : ∃ M', LwB 6 xs 77 0 M0 M' := by
  obtain ⟨v, w, M1, M2, a, b, c⟩ := (show Ans (X_X8_law_0 (xs (wI (0 + 1)).toNat) (xs (wI (0 + 2)).toNat)) (X_X9_law_53 (xs (wI (0 + 1)).toNat) (xs (wI (0 + 2)).toNat)) M0 from (gd_law M0_inv (hx _) (hx _) (fun h => by rw [m0_11] at h; omega)).ans)
  exact ⟨M2, lw_law p1_hi a b c (p1_fin M2)⟩
theorem p1_books {xs : Nat → Int} (hx : ∀ j, iR (xs j)) : ∃ M', LwB 6 xs 79 0 M0 M' := by
  obtain ⟨v, w, M1, M2, a, b, c⟩ := (show Ans (X_X8_books_0 (xs (wI (0 + 1)).toNat)) (X_X9_books_53 (xs (wI (0 + 1)).toNat)) M0 from (gd_books M0_inv (hx _) (fun _ h => absurd m0_11 h)).ans)
  exact ⟨M2, lw_books p1_hi a b c (p1_fin M2)⟩
theorem p1_kinds {xs : Nat → Int} (hx : ∀ j, iR (xs j)) : ∃ M', LwB 6 xs 81 0 M0 M' := by
  obtain ⟨v, w, M1, M2, a, b, c⟩ := (show Ans (X_X8_kinds_0 (xs (wI (0 + 1)).toNat)) (X_X9_kinds_53 (xs (wI (0 + 1)).toNat)) M0 from (gd_kinds M0_inv (hx _) (fun h => by rw [m0_11] at h; omega)).ans)
  exact ⟨M2, lw_kinds p1_hi a b c (p1_fin M2)⟩
theorem p1_lots {xs : Nat → Int} (hx : ∀ j, iR (xs j)) : ∃ M', LwB 6 xs 83 0 M0 M' := by
  obtain ⟨v, w, M1, M2, a, b, c⟩ := (show Ans (X_X8_lots_0 (xs (wI (0 + 1)).toNat) (xs (wI (0 + 2)).toNat)) (X_X9_lots_53 (xs (wI (0 + 1)).toNat) (xs (wI (0 + 2)).toNat)) M0 from (gd_lots M0_inv (hx _) (hx _) (fun _ _ h => absurd m0_11 h)).ans)
  exact ⟨M2, lw_lots p1_hi a b c (p1_fin M2)⟩
theorem p1_asked {xs : Nat → Int} (hx : ∀ j, iR (xs j)) : ∃ M', LwB 6 xs 85 0 M0 M' := by
  obtain ⟨v, w, M1, M2, a, b, c⟩ := (show Ans (X_X8_asked_0) (X_X9_asked_53) M0 from (eq_asked M0_inv).ans)
  exact ⟨M2, lw_asked p1_hi a b c (p1_fin M2)⟩
theorem p1_upper {xs : Nat → Int} (hx : ∀ j, iR (xs j)) : ∃ M', LwB 6 xs 87 0 M0 M' := by
  obtain ⟨v, w, M1, M2, a, b, c⟩ := (show AnsL (X_X8_upper_0) (X_X9_upper_53) M0 from (eq_upper M0_inv).ans)
  exact ⟨M2, lw_upper p1_hi a b c (p1_fin M2)⟩
theorem p1_lower {xs : Nat → Int} (hx : ∀ j, iR (xs j)) : ∃ M', LwB 6 xs 89 0 M0 M' := by
  obtain ⟨v, w, M1, M2, a, b, c⟩ := (show AnsL (X_X8_lower_0) (X_X9_lower_53) M0 from (eq_lower M0_inv).ans)
  exact ⟨M2, lw_lower p1_hi a b c (p1_fin M2)⟩
theorem p1_count {xs : Nat → Int} (hx : ∀ j, iR (xs j)) : ∃ M', LwB 6 xs 91 0 M0 M' := by
  obtain ⟨v, w, M1, M2, a, b, c⟩ := (show Ans (X_X8_count_0 (xs (wI (0 + 1)).toNat)) (X_X9_count_53 (xs (wI (0 + 1)).toNat)) M0 from (eq_count M0_inv (hx _)).ans)
  exact ⟨M2, lw_count p1_hi a b c (p1_fin M2)⟩
theorem p1_finding {xs : Nat → Int} (hx : ∀ j, iR (xs j)) : ∃ M', LwB 6 xs 93 0 M0 M' := by
  obtain ⟨v, w, M1, M2, a, b, c⟩ := (show Ans (X_X8_finding_0) (X_X9_finding_53) M0 from (eq_finding M0_inv).ans)
  exact ⟨M2, lw_finding p1_hi a b c (p1_fin M2)⟩
theorem p1_findings {xs : Nat → Int} (hx : ∀ j, iR (xs j)) : ∃ M', LwB 6 xs 95 0 M0 M' := by
  obtain ⟨v, w, M1, M2, a, b, c⟩ := (show Ans (X_X8_findings_0 (xs (wI (0 + 1)).toNat)) (X_X9_findings_53 (xs (wI (0 + 1)).toNat)) M0 from (eq_findings M0_inv (hx _)).ans)
  exact ⟨M2, lw_findings p1_hi a b c (p1_fin M2)⟩
theorem p1_digest {xs : Nat → Int} (hx : ∀ j, iR (xs j)) : ∃ M', LwB 6 xs 97 0 M0 M' := by
  obtain ⟨v, w, M1, M2, a, b, c⟩ := (show AnsL (X_X8_digest_0) (X_X9_digest_53) M0 from (eq_digest M0_inv).ans)
  exact ⟨M2, lw_digest p1_hi a b c (p1_fin M2)⟩
theorem p1_case {xs : Nat → Int} (hx : ∀ j, iR (xs j)) : ∀ j b : Nat, lwCs[j]? = some b → ∃ M', LwB 6 xs b 0 M0 M'
  | 0, _, h => by cases h; exact p1_row hx
  | 1, _, h => by cases h; exact p1_lay hx
  | 2, _, h => by cases h; exact p1_at hx
  | 3, _, h => by cases h; exact p1_tear hx
  | 4, _, h => by cases h; exact p1_copy hx
  | 5, _, h => by cases h; exact p1_mean hx
  | 6, _, h => by cases h; exact p1_text hx
  | 7, _, h => by cases h; exact p1_put hx
  | 8, _, h => by cases h; exact p1_fault hx
  | 9, _, h => by cases h; exact p1_land hx
  | 10, _, h => by cases h; exact p1_strip hx
  | 11, _, h => by cases h; exact p1_mark hx
  | 12, _, h => by cases h; exact p1_rate hx
  | 13, _, h => by cases h; exact p1_day hx
  | 14, _, h => by cases h; exact p1_undo hx
  | 15, _, h => by cases h; exact p1_border hx
  | 16, _, h => by cases h; exact p1_lain hx
  | 17, _, h => by cases h; exact p1_got hx
  | 18, _, h => by cases h; exact p1_keep hx
  | 19, _, h => by cases h; exact p1_on hx
  | 20, _, h => by cases h; exact p1_moves hx
  | 21, _, h => by cases h; exact p1_judge hx
  | 22, _, h => by cases h; exact p1_rude hx
  | 23, _, h => by cases h; exact p1_pays hx
  | 24, _, h => by cases h; exact p1_soonest hx
  | 25, _, h => by cases h; exact p1_polite hx
  | 26, _, h => by cases h; exact p1_ways hx
  | 27, _, h => by cases h; exact p1_reach hx
  | 28, _, h => by cases h; exact p1_least hx
  | 29, _, h => by cases h; exact p1_most hx
  | 30, _, h => by cases h; exact p1_now hx
  | 31, _, h => by cases h; exact p1_odds hx
  | 32, _, h => by cases h; exact p1_met hx
  | 33, _, h => by cases h; exact p1_hedge hx
  | 34, _, h => by cases h; exact p1_game hx
  | 35, _, h => by cases h; exact p1_said hx
  | 36, _, h => by cases h; exact p1_calm hx
  | 37, _, h => by cases h; exact p1_law hx
  | 38, _, h => by cases h; exact p1_books hx
  | 39, _, h => by cases h; exact p1_kinds hx
  | 40, _, h => by cases h; exact p1_lots hx
  | 41, _, h => by cases h; exact p1_asked hx
  | 42, _, h => by cases h; exact p1_upper hx
  | 43, _, h => by cases h; exact p1_lower hx
  | 44, _, h => by cases h; exact p1_count hx
  | 45, _, h => by cases h; exact p1_finding hx
  | 46, _, h => by cases h; exact p1_findings hx
  | 47, _, h => by cases h; exact p1_digest hx
  | j + 48, _, h => by simp [lwCs] at h
theorem p1_go {L : Nat} {xs : Nat → Int} (hL : L ≤ 6) (hx : ∀ j, iR (xs j)) : ∃ M', LwB L xs 1 0 M0 M' := by
  by_cases h6 : L = 6
  · subst h6
    have hi : 0 ≤ wI 0 ∧ wI 0 < (6 : Nat) := by decide
    obtain ⟨c, hc⟩ : ∃ c, c = wI (b_and_ (xs (wI 0).toNat) 63) := ⟨_, rfl⟩
    by_cases hr : 0 ≤ c ∧ c ≤ 47
    · obtain ⟨j, hj⟩ := Int.eq_ofNat_of_zero_le hr.1
      have hl : j < lwCs.length := by show j < 48; omega
      obtain ⟨M', h⟩ := p1_case hx j _ (List.getElem?_eq_getElem hl)
      exact ⟨M', lw_head1 (by decide) (lw_sw1 hi (List.getElem?_eq_getElem hl) (by rw [← hc]; exact hj) h)⟩
    · exact ⟨M0, lw_head1 (by decide) (lw_sw0 hi (by rw [← hc]; omega) (p1_fin M0))⟩
  · refine ⟨M0, lw_head0 M0 ?_⟩
    rw [wI_of (by omega) (by omega), wI_0]; omega
