/-! The whole script: call after call, what holds between the two is kept. -/
theorem gc_row {L : Nat} {xs : Nat → Int} {i : Int} {M : am_M} (hx : ∀ j, iR (xs j)) (hi : ∀ k : Int, 0 ≤ k → k < 6 → 0 ≤ wI (i + k) ∧ wI (i + k) < L) (I : Inv M) (K : ∀ M2, Inv M2 → ∃ M', LwB L xs 52 i M2 M') : ∃ M', LwB L xs 3 i M M' := by
  obtain ⟨v, w, M1, M2, a, b, J⟩ := (show Go (X_X8_row_0 (xs (wI (i + 1)).toNat) (xs (wI (i + 2)).toNat)) (X_X9_row_53 (xs (wI (i + 1)).toNat) (xs (wI (i + 2)).toNat)) M from (eq_row I (hx _) (hx _)).go)
  obtain ⟨M', h⟩ := K M2 J
  exact ⟨M', lw_row hi a b h⟩
theorem gc_lay {L : Nat} {xs : Nat → Int} {i : Int} {M : am_M} (hx : ∀ j, iR (xs j)) (hi : ∀ k : Int, 0 ≤ k → k < 6 → 0 ≤ wI (i + k) ∧ wI (i + k) < L) (I : Inv M) (K : ∀ M2, Inv M2 → ∃ M', LwB L xs 52 i M2 M') : ∃ M', LwB L xs 4 i M M' := by
  obtain ⟨v, w, M1, M2, a, b, J⟩ := (show Go (X_X8_lay_0 (xs (wI (i + 1)).toNat) (xs (wI (i + 2)).toNat) (xs (wI (i + 3)).toNat)) (X_X9_lay_53 (xs (wI (i + 1)).toNat) (xs (wI (i + 2)).toNat) (xs (wI (i + 3)).toNat)) M from (eq_lay I (hx _) (hx _) (hx _)).go)
  obtain ⟨M', h⟩ := K M2 J
  exact ⟨M', lw_lay hi a b h⟩
theorem gc_at {L : Nat} {xs : Nat → Int} {i : Int} {M : am_M} (hx : ∀ j, iR (xs j)) (hi : ∀ k : Int, 0 ≤ k → k < 6 → 0 ≤ wI (i + k) ∧ wI (i + k) < L) (I : Inv M) (K : ∀ M2, Inv M2 → ∃ M', LwB L xs 52 i M2 M') : ∃ M', LwB L xs 5 i M M' := by
  obtain ⟨v, w, M1, M2, a, b, J⟩ := (show Go (X_X8_at_0 (xs (wI (i + 1)).toNat) (xs (wI (i + 2)).toNat)) (X_X9_at_53 (xs (wI (i + 1)).toNat) (xs (wI (i + 2)).toNat)) M from (eq_at I (hx _) (hx _)).go)
  obtain ⟨M', h⟩ := K M2 J
  exact ⟨M', lw_at hi a b h⟩
theorem gc_tear {L : Nat} {xs : Nat → Int} {i : Int} {M : am_M} (hx : ∀ j, iR (xs j)) (hi : ∀ k : Int, 0 ≤ k → k < 6 → 0 ≤ wI (i + k) ∧ wI (i + k) < L) (I : Inv M) (K : ∀ M2, Inv M2 → ∃ M', LwB L xs 52 i M2 M') : ∃ M', LwB L xs 6 i M M' := by
  obtain ⟨v, w, M1, M2, a, b, J⟩ := (show Go (X_X8_tear_0 (xs (wI (i + 1)).toNat)) (X_X9_tear_53 (xs (wI (i + 1)).toNat)) M from (eq_tear I (hx _)).go)
  obtain ⟨M', h⟩ := K M2 J
  exact ⟨M', lw_tear hi a b h⟩
theorem gc_copy {L : Nat} {xs : Nat → Int} {i : Int} {M : am_M} (hx : ∀ j, iR (xs j)) (hi : ∀ k : Int, 0 ≤ k → k < 6 → 0 ≤ wI (i + k) ∧ wI (i + k) < L) (I : Inv M) (K : ∀ M2, Inv M2 → ∃ M', LwB L xs 52 i M2 M') : ∃ M', LwB L xs 7 i M M' := by
  obtain ⟨v, w, M1, M2, a, b, J⟩ := (show Go (X_X8_copy_0 (xs (wI (i + 1)).toNat) (xs (wI (i + 2)).toNat) (xs (wI (i + 3)).toNat) (xs (wI (i + 4)).toNat) (xs (wI (i + 5)).toNat)) (X_X9_copy_53 (xs (wI (i + 1)).toNat) (xs (wI (i + 2)).toNat) (xs (wI (i + 3)).toNat) (xs (wI (i + 4)).toNat) (xs (wI (i + 5)).toNat)) M from (eq_copy I (hx _) (hx _) (hx _) (hx _) (hx _)).go)
  obtain ⟨M', h⟩ := K M2 J
  exact ⟨M', lw_copy hi a b h⟩
theorem gc_mean {L : Nat} {xs : Nat → Int} {i : Int} {M : am_M} (hx : ∀ j, iR (xs j)) (hi : ∀ k : Int, 0 ≤ k → k < 6 → 0 ≤ wI (i + k) ∧ wI (i + k) < L) (I : Inv M) (K : ∀ M2, Inv M2 → ∃ M', LwB L xs 52 i M2 M') : ∃ M', LwB L xs 8 i M M' := by
  obtain ⟨v, w, M1, M2, a, b, J⟩ := (show Go (X_X8_mean_0 (xs (wI (i + 1)).toNat)) (X_X9_mean_53 (xs (wI (i + 1)).toNat)) M from (eq_mean I (hx _)).go)
  obtain ⟨M', h⟩ := K M2 J
  exact ⟨M', lw_mean hi a b h⟩
theorem gc_text {L : Nat} {xs : Nat → Int} {i : Int} {M : am_M} (hx : ∀ j, iR (xs j)) (hi : ∀ k : Int, 0 ≤ k → k < 6 → 0 ≤ wI (i + k) ∧ wI (i + k) < L) (I : Inv M) (K : ∀ M2, Inv M2 → ∃ M', LwB L xs 52 i M2 M') : ∃ M', LwB L xs 9 i M M' := by
  obtain ⟨v, w, M1, M2, a, b, J⟩ := (show Go (X_X8_text_0 (xs (wI (i + 1)).toNat) (xs (wI (i + 2)).toNat)) (X_X9_text_53 (xs (wI (i + 1)).toNat) (xs (wI (i + 2)).toNat)) M from (eq_text I (hx _) (hx _)).go)
  obtain ⟨M', h⟩ := K M2 J
  exact ⟨M', lw_text hi a b h⟩
theorem gc_put {L : Nat} {xs : Nat → Int} {i : Int} {M : am_M} (hx : ∀ j, iR (xs j)) (hi : ∀ k : Int, 0 ≤ k → k < 6 → 0 ≤ wI (i + k) ∧ wI (i + k) < L) (I : Inv M) (K : ∀ M2, Inv M2 → ∃ M', LwB L xs 52 i M2 M') : ∃ M', LwB L xs 10 i M M' := by
  obtain ⟨v, w, M1, M2, a, b, J⟩ := (show Go (X_X8_put_0 (xs (wI (i + 1)).toNat) (xs (wI (i + 2)).toNat) (xs (wI (i + 3)).toNat)) (X_X9_put_53 (xs (wI (i + 1)).toNat) (xs (wI (i + 2)).toNat) (xs (wI (i + 3)).toNat)) M from (eq_put I (hx _) (hx _)).go)
  obtain ⟨M', h⟩ := K M2 J
  exact ⟨M', lw_put hi a b h⟩
theorem gc_fault {L : Nat} {xs : Nat → Int} {i : Int} {M : am_M} (hx : ∀ j, iR (xs j)) (hi : ∀ k : Int, 0 ≤ k → k < 6 → 0 ≤ wI (i + k) ∧ wI (i + k) < L) (I : Inv M) (K : ∀ M2, Inv M2 → ∃ M', LwB L xs 52 i M2 M') : ∃ M', LwB L xs 11 i M M' := by
  obtain ⟨v, w, M1, M2, a, b, J⟩ := (show Go (X_X8_fault_0 (xs (wI (i + 1)).toNat)) (X_X9_fault_53 (xs (wI (i + 1)).toNat)) M from (eq_fault I (hx _)).go)
  obtain ⟨M', h⟩ := K M2 J
  exact ⟨M', lw_fault hi a b h⟩
theorem gc_land {L : Nat} {xs : Nat → Int} {i : Int} {M : am_M} (hx : ∀ j, iR (xs j)) (hi : ∀ k : Int, 0 ≤ k → k < 6 → 0 ≤ wI (i + k) ∧ wI (i + k) < L) (I : Inv M) (K : ∀ M2, Inv M2 → ∃ M', LwB L xs 52 i M2 M') : ∃ M', LwB L xs 12 i M M' := by
  obtain ⟨v, w, M1, M2, a, b, J⟩ := (show Go (X_X8_land_0 (xs (wI (i + 1)).toNat)) (X_X9_land_53 (xs (wI (i + 1)).toNat)) M from (eq_land I (hx _)).go)
  obtain ⟨M', h⟩ := K M2 J
  exact ⟨M', lw_land hi a b h⟩
theorem gc_strip {L : Nat} {xs : Nat → Int} {i : Int} {M : am_M} (hx : ∀ j, iR (xs j)) (hi : ∀ k : Int, 0 ≤ k → k < 6 → 0 ≤ wI (i + k) ∧ wI (i + k) < L) (I : Inv M) (K : ∀ M2, Inv M2 → ∃ M', LwB L xs 52 i M2 M') : ∃ M', LwB L xs 13 i M M' := by
  obtain ⟨v, w, M1, M2, a, b, J⟩ := (show Go (X_X8_strip_0 (xs (wI (i + 1)).toNat) (xs (wI (i + 2)).toNat)) (X_X9_strip_53 (xs (wI (i + 1)).toNat) (xs (wI (i + 2)).toNat)) M from (eq_strip I (hx _) (hx _)).go)
  obtain ⟨M', h⟩ := K M2 J
  exact ⟨M', lw_strip hi a b h⟩
theorem gc_mark {L : Nat} {xs : Nat → Int} {i : Int} {M : am_M} (hx : ∀ j, iR (xs j)) (hi : ∀ k : Int, 0 ≤ k → k < 6 → 0 ≤ wI (i + k) ∧ wI (i + k) < L) (I : Inv M) (K : ∀ M2, Inv M2 → ∃ M', LwB L xs 52 i M2 M') : ∃ M', LwB L xs 14 i M M' := by
  obtain ⟨v, w, M1, M2, a, b, J⟩ := (show Go (X_X8_mark_0 (xs (wI (i + 1)).toNat) (xs (wI (i + 2)).toNat)) (X_X9_mark_53 (xs (wI (i + 1)).toNat) (xs (wI (i + 2)).toNat)) M from (eq_mark I (hx _) (hx _)).go)
  obtain ⟨M', h⟩ := K M2 J
  exact ⟨M', lw_mark hi a b h⟩
theorem gc_rate {L : Nat} {xs : Nat → Int} {i : Int} {M : am_M} (hx : ∀ j, iR (xs j)) (hi : ∀ k : Int, 0 ≤ k → k < 6 → 0 ≤ wI (i + k) ∧ wI (i + k) < L) (I : Inv M) (K : ∀ M2, Inv M2 → ∃ M', LwB L xs 52 i M2 M') : ∃ M', LwB L xs 15 i M M' := by
  obtain ⟨v, w, M1, M2, a, b, J⟩ := (show Go (X_X8_rate_0 (xs (wI (i + 1)).toNat) (xs (wI (i + 2)).toNat)) (X_X9_rate_53 (xs (wI (i + 1)).toNat) (xs (wI (i + 2)).toNat)) M from (eq_rate I (hx _) (hx _)).go)
  obtain ⟨M', h⟩ := K M2 J
  exact ⟨M', lw_rate hi a b h⟩
theorem gc_day {L : Nat} {xs : Nat → Int} {i : Int} {M : am_M} (hx : ∀ j, iR (xs j)) (hi : ∀ k : Int, 0 ≤ k → k < 6 → 0 ≤ wI (i + k) ∧ wI (i + k) < L) (I : Inv M) (K : ∀ M2, Inv M2 → ∃ M', LwB L xs 52 i M2 M') : ∃ M', LwB L xs 16 i M M' := by
  obtain ⟨v, w, M1, M2, a, b, J⟩ := (show Go (X_X8_day_0 (xs (wI (i + 1)).toNat) (xs (wI (i + 2)).toNat)) (X_X9_day_53 (xs (wI (i + 1)).toNat) (xs (wI (i + 2)).toNat)) M from (eq_day I (hx _) (hx _)).go)
  obtain ⟨M', h⟩ := K M2 J
  exact ⟨M', lw_day hi a b h⟩
theorem gc_undo {L : Nat} {xs : Nat → Int} {i : Int} {M : am_M} (hx : ∀ j, iR (xs j)) (hi : ∀ k : Int, 0 ≤ k → k < 6 → 0 ≤ wI (i + k) ∧ wI (i + k) < L) (I : Inv M) (K : ∀ M2, Inv M2 → ∃ M', LwB L xs 52 i M2 M') : ∃ M', LwB L xs 17 i M M' := by
  obtain ⟨v, w, M1, M2, a, b, J⟩ := (show Go (X_X8_undo_0 (xs (wI (i + 1)).toNat)) (X_X9_undo_53 (xs (wI (i + 1)).toNat)) M from (eq_undo I (hx _)).go)
  obtain ⟨M', h⟩ := K M2 J
  exact ⟨M', lw_undo hi a b h⟩
theorem gc_border {L : Nat} {xs : Nat → Int} {i : Int} {M : am_M} (hx : ∀ j, iR (xs j)) (hi : ∀ k : Int, 0 ≤ k → k < 6 → 0 ≤ wI (i + k) ∧ wI (i + k) < L) (I : Inv M) (K : ∀ M2, Inv M2 → ∃ M', LwB L xs 52 i M2 M') : ∃ M', LwB L xs 18 i M M' := by
  obtain ⟨v, w, M1, M2, a, b, J⟩ := (show Go (X_X8_border_0 ) (X_X9_border_53 ) M from (eq_border I).go)
  obtain ⟨M', h⟩ := K M2 J
  exact ⟨M', lw_border hi a b h⟩
theorem gc_lain {L : Nat} {xs : Nat → Int} {i : Int} {M : am_M} (hx : ∀ j, iR (xs j)) (hi : ∀ k : Int, 0 ≤ k → k < 6 → 0 ≤ wI (i + k) ∧ wI (i + k) < L) (I : Inv M) (K : ∀ M2, Inv M2 → ∃ M', LwB L xs 52 i M2 M') : ∃ M', LwB L xs 19 i M M' := by
  obtain ⟨v, w, M1, M2, a, b, J⟩ := (show Go (X_X8_lain_0 (xs (wI (i + 1)).toNat)) (X_X9_lain_53 (xs (wI (i + 1)).toNat)) M from (eq_lain I (hx _)).go)
  obtain ⟨M', h⟩ := K M2 J
  exact ⟨M', lw_lain hi a b h⟩
theorem gc_got {L : Nat} {xs : Nat → Int} {i : Int} {M : am_M} (hx : ∀ j, iR (xs j)) (hi : ∀ k : Int, 0 ≤ k → k < 6 → 0 ≤ wI (i + k) ∧ wI (i + k) < L) (I : Inv M) (K : ∀ M2, Inv M2 → ∃ M', LwB L xs 52 i M2 M') : ∃ M', LwB L xs 20 i M M' := by
  obtain ⟨v, w, M1, M2, a, b, J⟩ := (show Go (X_X8_got_0 (xs (wI (i + 1)).toNat)) (X_X9_got_53 (xs (wI (i + 1)).toNat)) M from (eq_got I (hx _)).go)
  obtain ⟨M', h⟩ := K M2 J
  exact ⟨M', lw_got hi a b h⟩
theorem gc_keep {L : Nat} {xs : Nat → Int} {i : Int} {M : am_M} (hx : ∀ j, iR (xs j)) (hi : ∀ k : Int, 0 ≤ k → k < 6 → 0 ≤ wI (i + k) ∧ wI (i + k) < L) (I : Inv M) (K : ∀ M2, Inv M2 → ∃ M', LwB L xs 52 i M2 M') : ∃ M', LwB L xs 21 i M M' := by
  obtain ⟨v, w, M1, M2, a, b, J⟩ := (show Go (X_X8_keep_0 (xs (wI (i + 1)).toNat)) (X_X9_keep_53 (xs (wI (i + 1)).toNat)) M from (eq_keep I (hx _)).go)
  obtain ⟨M', h⟩ := K M2 J
  exact ⟨M', lw_keep hi a b h⟩
theorem gc_on {L : Nat} {xs : Nat → Int} {i : Int} {M : am_M} (hx : ∀ j, iR (xs j)) (hi : ∀ k : Int, 0 ≤ k → k < 6 → 0 ≤ wI (i + k) ∧ wI (i + k) < L) (I : Inv M) (K : ∀ M2, Inv M2 → ∃ M', LwB L xs 52 i M2 M') : ∃ M', LwB L xs 22 i M M' := by
  obtain ⟨v, w, M1, M2, a, b, J⟩ := (show Go (X_X8_on_0 (xs (wI (i + 1)).toNat)) (X_X9_on_53 (xs (wI (i + 1)).toNat)) M from (eq_on I (hx _)).go)
  obtain ⟨M', h⟩ := K M2 J
  exact ⟨M', lw_on hi a b h⟩
theorem gc_moves {L : Nat} {xs : Nat → Int} {i : Int} {M : am_M} (hx : ∀ j, iR (xs j)) (hi : ∀ k : Int, 0 ≤ k → k < 6 → 0 ≤ wI (i + k) ∧ wI (i + k) < L) (I : Inv M) (K : ∀ M2, Inv M2 → ∃ M', LwB L xs 52 i M2 M') : ∃ M', LwB L xs 23 i M M' := by
  obtain ⟨v, w, M1, M2, a, b, J⟩ := (show Go (X_X8_moves_0 ) (X_X9_moves_53 ) M from (eq_moves I).go)
  obtain ⟨M', h⟩ := K M2 J
  exact ⟨M', lw_moves hi a b h⟩
theorem gc_judge {L : Nat} {xs : Nat → Int} {i : Int} {M : am_M} (hx : ∀ j, iR (xs j)) (hi : ∀ k : Int, 0 ≤ k → k < 6 → 0 ≤ wI (i + k) ∧ wI (i + k) < L) (I : Inv M) (K : ∀ M2, Inv M2 → ∃ M', LwB L xs 52 i M2 M') : ∃ M', LwB L xs 24 i M M' := by
  obtain ⟨v, w, M1, M2, a, b, J⟩ := (show Go (X_X8_judge_0 (xs (wI (i + 1)).toNat)) (X_X9_judge_53 (xs (wI (i + 1)).toNat)) M from (eq_judge I (hx _)).go)
  obtain ⟨M', h⟩ := K M2 J
  exact ⟨M', lw_judge hi a b h⟩
theorem gc_rude {L : Nat} {xs : Nat → Int} {i : Int} {M : am_M} (hx : ∀ j, iR (xs j)) (hi : ∀ k : Int, 0 ≤ k → k < 6 → 0 ≤ wI (i + k) ∧ wI (i + k) < L) (I : Inv M) (K : ∀ M2, Inv M2 → ∃ M', LwB L xs 52 i M2 M') : ∃ M', LwB L xs 25 i M M' := by
  obtain ⟨v, w, M1, M2, a, b, J⟩ := (show Go (X_X8_rude_0 (xs (wI (i + 1)).toNat)) (X_X9_rude_53 (xs (wI (i + 1)).toNat)) M from (eq_rude I (hx _)).go)
  obtain ⟨M', h⟩ := K M2 J
  exact ⟨M', lw_rude hi a b h⟩
theorem gc_pays {L : Nat} {xs : Nat → Int} {i : Int} {M : am_M} (hx : ∀ j, iR (xs j)) (hi : ∀ k : Int, 0 ≤ k → k < 6 → 0 ≤ wI (i + k) ∧ wI (i + k) < L) (I : Inv M) (K : ∀ M2, Inv M2 → ∃ M', LwB L xs 52 i M2 M') : ∃ M', LwB L xs 26 i M M' := by
  obtain ⟨v, w, M1, M2, a, b, J⟩ := (show Go (X_X8_pays_0 (xs (wI (i + 1)).toNat) (xs (wI (i + 2)).toNat)) (X_X9_pays_53 (xs (wI (i + 1)).toNat) (xs (wI (i + 2)).toNat)) M from (eq_pays I (hx _) (hx _)).go)
  obtain ⟨M', h⟩ := K M2 J
  exact ⟨M', lw_pays hi a b h⟩
theorem gc_soonest {L : Nat} {xs : Nat → Int} {i : Int} {M : am_M} (hx : ∀ j, iR (xs j)) (hi : ∀ k : Int, 0 ≤ k → k < 6 → 0 ≤ wI (i + k) ∧ wI (i + k) < L) (I : Inv M) (K : ∀ M2, Inv M2 → ∃ M', LwB L xs 52 i M2 M') : ∃ M', LwB L xs 27 i M M' := by
  obtain ⟨v, w, M1, M2, a, b, J⟩ := (show Go (X_X8_soonest_0 (xs (wI (i + 1)).toNat) (xs (wI (i + 2)).toNat)) (X_X9_soonest_53 (xs (wI (i + 1)).toNat) (xs (wI (i + 2)).toNat)) M from (eq_soonest I (hx _) (hx _)).go)
  obtain ⟨M', h⟩ := K M2 J
  exact ⟨M', lw_soonest hi a b h⟩
theorem gc_polite {L : Nat} {xs : Nat → Int} {i : Int} {M : am_M} (hx : ∀ j, iR (xs j)) (hi : ∀ k : Int, 0 ≤ k → k < 6 → 0 ≤ wI (i + k) ∧ wI (i + k) < L) (I : Inv M) (K : ∀ M2, Inv M2 → ∃ M', LwB L xs 52 i M2 M') : ∃ M', LwB L xs 28 i M M' := by
  obtain ⟨v, w, M1, M2, a, b, J⟩ := (show Go (X_X8_polite_0 (xs (wI (i + 1)).toNat) (xs (wI (i + 2)).toNat) (xs (wI (i + 3)).toNat)) (X_X9_polite_53 (xs (wI (i + 1)).toNat) (xs (wI (i + 2)).toNat) (xs (wI (i + 3)).toNat)) M from (eq_polite I (hx _) (hx _) (hx _)).go)
  obtain ⟨M', h⟩ := K M2 J
  exact ⟨M', lw_polite hi a b h⟩
theorem gc_ways {L : Nat} {xs : Nat → Int} {i : Int} {M : am_M} (hx : ∀ j, iR (xs j)) (hi : ∀ k : Int, 0 ≤ k → k < 6 → 0 ≤ wI (i + k) ∧ wI (i + k) < L) (I : Inv M) (K : ∀ M2, Inv M2 → ∃ M', LwB L xs 52 i M2 M') : ∃ M', LwB L xs 29 i M M' := by
  obtain ⟨v, w, M1, M2, a, b, J⟩ := (show Go (X_X8_ways_0 (xs (wI (i + 1)).toNat) (xs (wI (i + 2)).toNat)) (X_X9_ways_53 (xs (wI (i + 1)).toNat) (xs (wI (i + 2)).toNat)) M from (eq_ways I (hx _) (hx _)).go)
  obtain ⟨M', h⟩ := K M2 J
  exact ⟨M', lw_ways hi a b h⟩
theorem gc_reach {L : Nat} {xs : Nat → Int} {i : Int} {M : am_M} (hx : ∀ j, iR (xs j)) (hi : ∀ k : Int, 0 ≤ k → k < 6 → 0 ≤ wI (i + k) ∧ wI (i + k) < L) (I : Inv M) (K : ∀ M2, Inv M2 → ∃ M', LwB L xs 52 i M2 M') : ∃ M', LwB L xs 30 i M M' := by
  obtain ⟨v, w, M1, M2, a, b, J⟩ := (show Go (X_X8_reach_0 (xs (wI (i + 1)).toNat)) (X_X9_reach_53 (xs (wI (i + 1)).toNat)) M from (eq_reach I (hx _)).go)
  obtain ⟨M', h⟩ := K M2 J
  exact ⟨M', lw_reach hi a b h⟩
theorem gc_least {L : Nat} {xs : Nat → Int} {i : Int} {M : am_M} (hx : ∀ j, iR (xs j)) (hi : ∀ k : Int, 0 ≤ k → k < 6 → 0 ≤ wI (i + k) ∧ wI (i + k) < L) (I : Inv M) (K : ∀ M2, Inv M2 → ∃ M', LwB L xs 52 i M2 M') : ∃ M', LwB L xs 31 i M M' := by
  obtain ⟨v, w, M1, M2, a, b, J⟩ := (show Go (X_X8_least_0 (xs (wI (i + 1)).toNat) (xs (wI (i + 2)).toNat) (xs (wI (i + 3)).toNat)) (X_X9_least_53 (xs (wI (i + 1)).toNat) (xs (wI (i + 2)).toNat) (xs (wI (i + 3)).toNat)) M from (eq_least I (hx _) (hx _) (hx _)).go)
  obtain ⟨M', h⟩ := K M2 J
  exact ⟨M', lw_least hi a b h⟩
theorem gc_most {L : Nat} {xs : Nat → Int} {i : Int} {M : am_M} (hx : ∀ j, iR (xs j)) (hi : ∀ k : Int, 0 ≤ k → k < 6 → 0 ≤ wI (i + k) ∧ wI (i + k) < L) (I : Inv M) (K : ∀ M2, Inv M2 → ∃ M', LwB L xs 52 i M2 M') : ∃ M', LwB L xs 32 i M M' := by
  obtain ⟨v, w, M1, M2, a, b, J⟩ := (show Go (X_X8_most_0 (xs (wI (i + 1)).toNat) (xs (wI (i + 2)).toNat)) (X_X9_most_53 (xs (wI (i + 1)).toNat) (xs (wI (i + 2)).toNat)) M from (eq_most I (hx _) (hx _)).go)
  obtain ⟨M', h⟩ := K M2 J
  exact ⟨M', lw_most hi a b h⟩
theorem gc_now {L : Nat} {xs : Nat → Int} {i : Int} {M : am_M} (hx : ∀ j, iR (xs j)) (hi : ∀ k : Int, 0 ≤ k → k < 6 → 0 ≤ wI (i + k) ∧ wI (i + k) < L) (I : Inv M) (K : ∀ M2, Inv M2 → ∃ M', LwB L xs 52 i M2 M') : ∃ M', LwB L xs 33 i M M' := by
  obtain ⟨v, w, M1, M2, a, b, J⟩ := (show Go (X_X8_now_0 ) (X_X9_now_53 ) M from (eq_now I).go)
  obtain ⟨M', h⟩ := K M2 J
  exact ⟨M', lw_now hi a b h⟩
theorem gc_odds {L : Nat} {xs : Nat → Int} {i : Int} {M : am_M} (hx : ∀ j, iR (xs j)) (hi : ∀ k : Int, 0 ≤ k → k < 6 → 0 ≤ wI (i + k) ∧ wI (i + k) < L) (I : Inv M) (K : ∀ M2, Inv M2 → ∃ M', LwB L xs 52 i M2 M') : ∃ M', LwB L xs 34 i M M' := by
  obtain ⟨v, w, M1, M2, a, b, J⟩ := (show Go (X_X8_odds_0 (xs (wI (i + 1)).toNat) (xs (wI (i + 2)).toNat)) (X_X9_odds_53 (xs (wI (i + 1)).toNat) (xs (wI (i + 2)).toNat)) M from (eq_odds I (hx _) (hx _)).go)
  obtain ⟨M', h⟩ := K M2 J
  exact ⟨M', lw_odds hi a b h⟩
theorem gc_met {L : Nat} {xs : Nat → Int} {i : Int} {M : am_M} (hx : ∀ j, iR (xs j)) (hi : ∀ k : Int, 0 ≤ k → k < 6 → 0 ≤ wI (i + k) ∧ wI (i + k) < L) (I : Inv M) (K : ∀ M2, Inv M2 → ∃ M', LwB L xs 52 i M2 M') : ∃ M', LwB L xs 35 i M M' := by
  obtain ⟨v, w, M1, M2, a, b, J⟩ := (show Go (X_X8_met_0 (xs (wI (i + 1)).toNat) (xs (wI (i + 2)).toNat)) (X_X9_met_53 (xs (wI (i + 1)).toNat) (xs (wI (i + 2)).toNat)) M from (eq_met I (hx _) (hx _)).go)
  obtain ⟨M', h⟩ := K M2 J
  exact ⟨M', lw_met hi a b h⟩
theorem gc_hedge {L : Nat} {xs : Nat → Int} {i : Int} {M : am_M} (hx : ∀ j, iR (xs j)) (hi : ∀ k : Int, 0 ≤ k → k < 6 → 0 ≤ wI (i + k) ∧ wI (i + k) < L) (I : Inv M) (K : ∀ M2, Inv M2 → ∃ M', LwB L xs 52 i M2 M') : ∃ M', LwB L xs 36 i M M' := by
  obtain ⟨v, w, M1, M2, a, b, J⟩ := (show Go (X_X8_hedge_0 (xs (wI (i + 1)).toNat) (xs (wI (i + 2)).toNat)) (X_X9_hedge_53 (xs (wI (i + 1)).toNat) (xs (wI (i + 2)).toNat)) M from (eq_hedge I (hx _) (hx _)).go)
  obtain ⟨M', h⟩ := K M2 J
  exact ⟨M', lw_hedge hi a b h⟩
theorem gc_game {L : Nat} {xs : Nat → Int} {i : Int} {M : am_M} (hx : ∀ j, iR (xs j)) (hi : ∀ k : Int, 0 ≤ k → k < 6 → 0 ≤ wI (i + k) ∧ wI (i + k) < L) (I : Inv M) (K : ∀ M2, Inv M2 → ∃ M', LwB L xs 52 i M2 M') : ∃ M', LwB L xs 37 i M M' := by
  obtain ⟨v, w, M1, M2, a, b, J⟩ := (show Go (X_X8_game_0 (xs (wI (i + 1)).toNat) (xs (wI (i + 2)).toNat)) (X_X9_game_53 (xs (wI (i + 1)).toNat) (xs (wI (i + 2)).toNat)) M from (eq_game I (hx _) (hx _)).go)
  obtain ⟨M', h⟩ := K M2 J
  exact ⟨M', lw_game hi a b h⟩
theorem gc_said {L : Nat} {xs : Nat → Int} {i : Int} {M : am_M} (hx : ∀ j, iR (xs j)) (hi : ∀ k : Int, 0 ≤ k → k < 6 → 0 ≤ wI (i + k) ∧ wI (i + k) < L) (I : Inv M) (K : ∀ M2, Inv M2 → ∃ M', LwB L xs 52 i M2 M') : ∃ M', LwB L xs 38 i M M' := by
  obtain ⟨v, w, M1, M2, a, b, J⟩ := (show Go (X_X8_said_0 (xs (wI (i + 1)).toNat) (xs (wI (i + 2)).toNat)) (X_X9_said_53 (xs (wI (i + 1)).toNat) (xs (wI (i + 2)).toNat)) M from (eq_said I (hx _) (hx _)).go)
  obtain ⟨M', h⟩ := K M2 J
  exact ⟨M', lw_said hi a b h⟩
theorem gc_calm {L : Nat} {xs : Nat → Int} {i : Int} {M : am_M} (hx : ∀ j, iR (xs j)) (hi : ∀ k : Int, 0 ≤ k → k < 6 → 0 ≤ wI (i + k) ∧ wI (i + k) < L) (I : Inv M) (K : ∀ M2, Inv M2 → ∃ M', LwB L xs 52 i M2 M') : ∃ M', LwB L xs 39 i M M' := by
  obtain ⟨v, w, M1, M2, a, b, J⟩ := (show Go (X_X8_calm_0 (xs (wI (i + 1)).toNat) (xs (wI (i + 2)).toNat)) (X_X9_calm_53 (xs (wI (i + 1)).toNat) (xs (wI (i + 2)).toNat)) M from (eq_calm I (hx _) (hx _)).go)
  obtain ⟨M', h⟩ := K M2 J
  exact ⟨M', lw_calm hi a b h⟩
theorem gc_law {L : Nat} {xs : Nat → Int} {i : Int} {M : am_M} (hx : ∀ j, iR (xs j)) (hi : ∀ k : Int, 0 ≤ k → k < 6 → 0 ≤ wI (i + k) ∧ wI (i + k) < L) (I : Inv M) (K : ∀ M2, Inv M2 → ∃ M', LwB L xs 52 i M2 M') : ∃ M', LwB L xs 40 i M M' := by
  obtain ⟨v, w, M1, M2, a, b, J⟩ := (show Go (X_X8_law_0 (xs (wI (i + 1)).toNat) (xs (wI (i + 2)).toNat)) (X_X9_law_53 (xs (wI (i + 1)).toNat) (xs (wI (i + 2)).toNat)) M from go_law I (hx _) (hx _))
  obtain ⟨M', h⟩ := K M2 J
  exact ⟨M', lw_law hi a b h⟩
theorem gc_books {L : Nat} {xs : Nat → Int} {i : Int} {M : am_M} (hx : ∀ j, iR (xs j)) (hi : ∀ k : Int, 0 ≤ k → k < 6 → 0 ≤ wI (i + k) ∧ wI (i + k) < L) (I : Inv M) (K : ∀ M2, Inv M2 → ∃ M', LwB L xs 52 i M2 M') : ∃ M', LwB L xs 41 i M M' := by
  obtain ⟨v, w, M1, M2, a, b, J⟩ := (show Go (X_X8_books_0 (xs (wI (i + 1)).toNat)) (X_X9_books_53 (xs (wI (i + 1)).toNat)) M from (eq_books I (hx _)).go)
  obtain ⟨M', h⟩ := K M2 J
  exact ⟨M', lw_books hi a b h⟩
theorem gc_kinds {L : Nat} {xs : Nat → Int} {i : Int} {M : am_M} (hx : ∀ j, iR (xs j)) (hi : ∀ k : Int, 0 ≤ k → k < 6 → 0 ≤ wI (i + k) ∧ wI (i + k) < L) (I : Inv M) (K : ∀ M2, Inv M2 → ∃ M', LwB L xs 52 i M2 M') : ∃ M', LwB L xs 42 i M M' := by
  obtain ⟨v, w, M1, M2, a, b, J⟩ := (show Go (X_X8_kinds_0 (xs (wI (i + 1)).toNat)) (X_X9_kinds_53 (xs (wI (i + 1)).toNat)) M from (eq_kinds I (hx _)).go)
  obtain ⟨M', h⟩ := K M2 J
  exact ⟨M', lw_kinds hi a b h⟩
theorem gc_lots {L : Nat} {xs : Nat → Int} {i : Int} {M : am_M} (hx : ∀ j, iR (xs j)) (hi : ∀ k : Int, 0 ≤ k → k < 6 → 0 ≤ wI (i + k) ∧ wI (i + k) < L) (I : Inv M) (K : ∀ M2, Inv M2 → ∃ M', LwB L xs 52 i M2 M') : ∃ M', LwB L xs 43 i M M' := by
  obtain ⟨v, w, M1, M2, a, b, J⟩ := (show Go (X_X8_lots_0 (xs (wI (i + 1)).toNat) (xs (wI (i + 2)).toNat)) (X_X9_lots_53 (xs (wI (i + 1)).toNat) (xs (wI (i + 2)).toNat)) M from (eq_lots I (hx _) (hx _)).go)
  obtain ⟨M', h⟩ := K M2 J
  exact ⟨M', lw_lots hi a b h⟩
theorem gc_asked {L : Nat} {xs : Nat → Int} {i : Int} {M : am_M} (hx : ∀ j, iR (xs j)) (hi : ∀ k : Int, 0 ≤ k → k < 6 → 0 ≤ wI (i + k) ∧ wI (i + k) < L) (I : Inv M) (K : ∀ M2, Inv M2 → ∃ M', LwB L xs 52 i M2 M') : ∃ M', LwB L xs 44 i M M' := by
  obtain ⟨v, w, M1, M2, a, b, J⟩ := (show Go (X_X8_asked_0 ) (X_X9_asked_53 ) M from (eq_asked I).go)
  obtain ⟨M', h⟩ := K M2 J
  exact ⟨M', lw_asked hi a b h⟩
theorem gc_upper {L : Nat} {xs : Nat → Int} {i : Int} {M : am_M} (hx : ∀ j, iR (xs j)) (hi : ∀ k : Int, 0 ≤ k → k < 6 → 0 ≤ wI (i + k) ∧ wI (i + k) < L) (I : Inv M) (K : ∀ M2, Inv M2 → ∃ M', LwB L xs 52 i M2 M') : ∃ M', LwB L xs 45 i M M' := by
  obtain ⟨v, w, M1, M2, a, b, J⟩ := (show Go (X_X8_upper_0 ) (X_X9_upper_53 ) M from (eq_upper I).go)
  obtain ⟨M', h⟩ := K M2 J
  exact ⟨M', lw_upper hi a b h⟩
theorem gc_lower {L : Nat} {xs : Nat → Int} {i : Int} {M : am_M} (hx : ∀ j, iR (xs j)) (hi : ∀ k : Int, 0 ≤ k → k < 6 → 0 ≤ wI (i + k) ∧ wI (i + k) < L) (I : Inv M) (K : ∀ M2, Inv M2 → ∃ M', LwB L xs 52 i M2 M') : ∃ M', LwB L xs 46 i M M' := by
  obtain ⟨v, w, M1, M2, a, b, J⟩ := (show Go (X_X8_lower_0 ) (X_X9_lower_53 ) M from (eq_lower I).go)
  obtain ⟨M', h⟩ := K M2 J
  exact ⟨M', lw_lower hi a b h⟩
theorem gc_count {L : Nat} {xs : Nat → Int} {i : Int} {M : am_M} (hx : ∀ j, iR (xs j)) (hi : ∀ k : Int, 0 ≤ k → k < 6 → 0 ≤ wI (i + k) ∧ wI (i + k) < L) (I : Inv M) (K : ∀ M2, Inv M2 → ∃ M', LwB L xs 52 i M2 M') : ∃ M', LwB L xs 47 i M M' := by
  obtain ⟨v, w, M1, M2, a, b, J⟩ := (show Go (X_X8_count_0 (xs (wI (i + 1)).toNat)) (X_X9_count_53 (xs (wI (i + 1)).toNat)) M from (eq_count I (hx _)).go)
  obtain ⟨M', h⟩ := K M2 J
  exact ⟨M', lw_count hi a b h⟩
theorem gc_finding {L : Nat} {xs : Nat → Int} {i : Int} {M : am_M} (hx : ∀ j, iR (xs j)) (hi : ∀ k : Int, 0 ≤ k → k < 6 → 0 ≤ wI (i + k) ∧ wI (i + k) < L) (I : Inv M) (K : ∀ M2, Inv M2 → ∃ M', LwB L xs 52 i M2 M') : ∃ M', LwB L xs 48 i M M' := by
  obtain ⟨v, w, M1, M2, a, b, J⟩ := (show Go (X_X8_finding_0 ) (X_X9_finding_53 ) M from (eq_finding I).go)
  obtain ⟨M', h⟩ := K M2 J
  exact ⟨M', lw_finding hi a b h⟩
theorem gc_findings {L : Nat} {xs : Nat → Int} {i : Int} {M : am_M} (hx : ∀ j, iR (xs j)) (hi : ∀ k : Int, 0 ≤ k → k < 6 → 0 ≤ wI (i + k) ∧ wI (i + k) < L) (I : Inv M) (K : ∀ M2, Inv M2 → ∃ M', LwB L xs 52 i M2 M') : ∃ M', LwB L xs 49 i M M' := by
  obtain ⟨v, w, M1, M2, a, b, J⟩ := (show Go (X_X8_findings_0 (xs (wI (i + 1)).toNat)) (X_X9_findings_53 (xs (wI (i + 1)).toNat)) M from (eq_findings I (hx _)).go)
  obtain ⟨M', h⟩ := K M2 J
  exact ⟨M', lw_findings hi a b h⟩
theorem gc_digest {L : Nat} {xs : Nat → Int} {i : Int} {M : am_M} (hx : ∀ j, iR (xs j)) (hi : ∀ k : Int, 0 ≤ k → k < 6 → 0 ≤ wI (i + k) ∧ wI (i + k) < L) (I : Inv M) (K : ∀ M2, Inv M2 → ∃ M', LwB L xs 52 i M2 M') : ∃ M', LwB L xs 50 i M M' := by
  obtain ⟨v, w, M1, M2, a, b, c, J⟩ := (show StepL (X_X8_digest_0 ) (X_X9_digest_53 ) M from eq_digest I)
  obtain ⟨M', h⟩ := K M2 J
  exact ⟨M', lw_digest hi a b c h⟩
theorem gc_all {L : Nat} {xs : Nat → Int} {i : Int} {M : am_M} (hx : ∀ j, iR (xs j)) (hi : ∀ k : Int, 0 ≤ k → k < 6 → 0 ≤ wI (i + k) ∧ wI (i + k) < L) (I : Inv M) (K : ∀ M2, Inv M2 → ∃ M', LwB L xs 52 i M2 M') : ∀ j b : Nat, lwCs[j]? = some b → ∃ M', LwB L xs b i M M'
  | 0, _, h => by cases h; exact gc_row hx hi I K
  | 1, _, h => by cases h; exact gc_lay hx hi I K
  | 2, _, h => by cases h; exact gc_at hx hi I K
  | 3, _, h => by cases h; exact gc_tear hx hi I K
  | 4, _, h => by cases h; exact gc_copy hx hi I K
  | 5, _, h => by cases h; exact gc_mean hx hi I K
  | 6, _, h => by cases h; exact gc_text hx hi I K
  | 7, _, h => by cases h; exact gc_put hx hi I K
  | 8, _, h => by cases h; exact gc_fault hx hi I K
  | 9, _, h => by cases h; exact gc_land hx hi I K
  | 10, _, h => by cases h; exact gc_strip hx hi I K
  | 11, _, h => by cases h; exact gc_mark hx hi I K
  | 12, _, h => by cases h; exact gc_rate hx hi I K
  | 13, _, h => by cases h; exact gc_day hx hi I K
  | 14, _, h => by cases h; exact gc_undo hx hi I K
  | 15, _, h => by cases h; exact gc_border hx hi I K
  | 16, _, h => by cases h; exact gc_lain hx hi I K
  | 17, _, h => by cases h; exact gc_got hx hi I K
  | 18, _, h => by cases h; exact gc_keep hx hi I K
  | 19, _, h => by cases h; exact gc_on hx hi I K
  | 20, _, h => by cases h; exact gc_moves hx hi I K
  | 21, _, h => by cases h; exact gc_judge hx hi I K
  | 22, _, h => by cases h; exact gc_rude hx hi I K
  | 23, _, h => by cases h; exact gc_pays hx hi I K
  | 24, _, h => by cases h; exact gc_soonest hx hi I K
  | 25, _, h => by cases h; exact gc_polite hx hi I K
  | 26, _, h => by cases h; exact gc_ways hx hi I K
  | 27, _, h => by cases h; exact gc_reach hx hi I K
  | 28, _, h => by cases h; exact gc_least hx hi I K
  | 29, _, h => by cases h; exact gc_most hx hi I K
  | 30, _, h => by cases h; exact gc_now hx hi I K
  | 31, _, h => by cases h; exact gc_odds hx hi I K
  | 32, _, h => by cases h; exact gc_met hx hi I K
  | 33, _, h => by cases h; exact gc_hedge hx hi I K
  | 34, _, h => by cases h; exact gc_game hx hi I K
  | 35, _, h => by cases h; exact gc_said hx hi I K
  | 36, _, h => by cases h; exact gc_calm hx hi I K
  | 37, _, h => by cases h; exact gc_law hx hi I K
  | 38, _, h => by cases h; exact gc_books hx hi I K
  | 39, _, h => by cases h; exact gc_kinds hx hi I K
  | 40, _, h => by cases h; exact gc_lots hx hi I K
  | 41, _, h => by cases h; exact gc_asked hx hi I K
  | 42, _, h => by cases h; exact gc_upper hx hi I K
  | 43, _, h => by cases h; exact gc_lower hx hi I K
  | 44, _, h => by cases h; exact gc_count hx hi I K
  | 45, _, h => by cases h; exact gc_finding hx hi I K
  | 46, _, h => by cases h; exact gc_findings hx hi I K
  | 47, _, h => by cases h; exact gc_digest hx hi I K
  | j + 48, _, h => by simp [lwCs] at h
theorem lw_run {L : Nat} {xs : Nat → Int} (hL : L ≤ 1000) (hx : ∀ j, iR (xs j)) : ∀ (e i : Nat) (M : am_M), L < i + 6 * e → i ≤ L + 6 → Inv M → ∃ M', LwB L xs 1 i M M' := by
  intro e
  induction e with
  | zero =>
    intro i M h1 h2 I
    refine ⟨M, lw_head0 M ?_⟩
    rw [wI_of (x := (L : Int) - 6) (by omega) (by omega), wI_of (x := (i : Int)) (by omega) (by omega)]; omega
  | succ e ih =>
    intro i M h1 h2 I
    by_cases c6 : L < i + 6
    · refine ⟨M, lw_head0 M ?_⟩
      rw [wI_of (x := (L : Int) - 6) (by omega) (by omega), wI_of (x := (i : Int)) (by omega) (by omega)]; omega
    · have hi : ∀ k : Int, 0 ≤ k → k < 6 → 0 ≤ wI ((i : Int) + k) ∧ wI ((i : Int) + k) < L := fun k k1 k2 => by
        rw [wI_of (by omega) (by omega)]; omega
      have hi0 : 0 ≤ wI (i : Int) ∧ wI (i : Int) < L := by rw [wI_of (by omega) (by omega)]; omega
      have K : ∀ M2, Inv M2 → ∃ M', LwB L xs 52 (i : Int) M2 M' := fun M2 J => by
        obtain ⟨M', h⟩ := ih (i + 6) M2 (by omega) (by omega) J
        exact ⟨M', lw_step (by rw [show (i : Int) + 6 = ((i + 6 : Nat) : Int) by omega]; exact h)⟩
      have hh : ¬ wI ((L : Int) - 6) < wI (i : Int) := by
        rw [wI_of (x := (L : Int) - 6) (by omega) (by omega), wI_of (x := (i : Int)) (by omega) (by omega)]; omega
      obtain ⟨c, hc⟩ : ∃ c, c = wI (b_and_ (xs (wI (i : Int)).toNat) 63) := ⟨_, rfl⟩
      by_cases hr : 0 ≤ c ∧ c ≤ 47
      · obtain ⟨j, hj⟩ := Int.eq_ofNat_of_zero_le hr.1
        have hl : j < lwCs.length := by show j < 48; omega
        obtain ⟨M', h⟩ := gc_all hx hi I K j _ (List.getElem?_eq_getElem hl)
        exact ⟨M', lw_head1 hh (lw_sw1 hi0 (List.getElem?_eq_getElem hl) (by rw [← hc]; exact hj) h)⟩
      · obtain ⟨M', h⟩ := K M I
        exact ⟨M', lw_head1 hh (lw_sw0 hi0 (by rw [← hc]; omega) h)⟩
theorem lw_go {L : Nat} {xs : Nat → Int} (hL : L ≤ 384) (hx : ∀ j, iR (xs j)) : ∃ M', LwB L xs 1 0 M0 M' := by
  have := lw_run (L := L) (xs := xs) (by omega) hx (L + 1) 0 M0 (by omega) (by omega) M0_inv
  exact this
