/-! Days: what stays alike while days pass. -/
theorem tot_c {kd du h h' R R' : Nat → Int} {c : Int} {i : Nat} : ∀ (n : Nat), (∀ j, j ≤ 10 * n → h' j = h j) → (∀ j, j < 10 * n → R' j = R j) → tot kd du h' R' c i n = tot kd du h R c i n
  | 0, _, _ => rfl
  | n + 1, hh, hR => by
    simp only [tot]
    rw [tot_c n (fun j hj => hh j (by omega)) (fun j hj => hR j (by omega)), hh (10 * n + 10) (by omega), hR (10 * n + 9) (by omega)]
theorem chg_c {h h' : Nat → Int} {i : Int} : ∀ (n : Nat), (∀ j, j ≤ n → h' j = h j) → chg h' i n = chg h i n
  | 0, _ => rfl
  | n + 1, hh => by
    simp only [chg]
    rw [chg_c n (fun j hj => hh j (by omega)), hh n (by omega), hh (n + 1) (by omega)]
theorem DI_L {s : Int} {kd du o a b h p L L' : Nat → Int} {z : Nat} (hs : s ≤ 12) (D : DI s kd du o a b h p L z) (hL : ∀ j, z ≤ j → j < z + 121 → L' j = L j) : DI s kd du o a b h p L' z := by
  obtain ⟨⟨o1, o2, o3, o4, o5, o6, o7, o8, o9⟩, ⟨s1, s2⟩, hH, ⟨p1, p2⟩, hT⟩ := D
  refine ⟨⟨?_, o2, ?_, o4, ?_, ?_, o7, o8, o9⟩, ⟨s1, fun j hj => ?_⟩, ?_, ⟨p1, fun t i ht hi => ?_⟩, fun i hi => ?_⟩
  · rw [hL z (by omega) (by omega)]; exact o1
  · rw [hL (z + 1) (by omega) (by omega)]; exact o3
  · rw [hL (z + 2) (by omega) (by omega)]; exact o5
  · rw [hL (z + 3) (by omega) (by omega)]; exact o6
  · rw [hL (z + 40 + j) (by omega) (by omega), hL (z + 80 + j) (by omega) (by omega)]; exact s2 j hj
  · rw [hL (z + 120) (by omega) (by omega)]; exact hH
  · have := p2 t i ht hi
    dsimp only at this ⊢
    rw [hL (z + 80 + (10 * t + 9)) (by omega) (by omega)]; exact this
  · have := hT i hi
    have e : ∀ c : Int, tot kd du h (fun j => L' (z + 80 + j)) c i (o 0 / 10).toNat = tot kd du h (fun j => L (z + 80 + j)) c i (o 0 / 10).toNat := fun c => tot_c _ (fun _ _ => rfl) (fun j hj => hL (z + 80 + j) (by omega) (by omega))
    rw [hL (z + 4 + 3 * i) (by omega) (by omega), hL (z + 4 + 3 * i + 1) (by omega) (by omega), hL (z + 4 + 3 * i + 2) (by omega) (by omega), e, e]
    exact this
theorem KpI_L {s : Int} {kd du k o a b h p L L' : Nat → Int} {j z : Nat} (hs : s ≤ 12) (D : KpI s kd du k o a b h p L j z) (hL : ∀ j, z ≤ j → j < z + 121 → L' j = L j) : KpI s kd du k o a b h p L' j z :=
  ⟨by rw [hL z (by omega) (by omega)]; exact D.1, D.2.1, D.2.2.1, fun q => ⟨(D.2.2.2.1 q).1, DI_L hs (D.2.2.2.1 q).2 hL⟩, D.2.2.2.2⟩
theorem inv_days {M M' : am_M} (I : Inv M) (hc : ∀ a, a ≠ 14 → a ≠ 15 → a ≠ 16 → a ≠ 17 → a ≠ 18 → a ≠ 54 → M' a = M a) (hL : ∀ j, 121 ≤ j → j < 484 → M' 54 j = M 54 j) (hD : DI (M 11 0) (M 12) (M 13) (M' 14) (M' 15) (M' 16) (M' 17) (M' 18) (M' 54) 0) : Inv M' := by
  have hs := I.2.2.2.1.2.2.1
  have k1 := KpI_L (L' := M' 54) hs I.2.2.2.2.2.1.1 (fun j h1 h2 => hL j (by omega) (by omega))
  have k2 := KpI_L (L' := M' 54) hs I.2.2.2.2.2.1.2.1 (fun j h1 h2 => hL j (by omega) (by omega))
  have k3 := KpI_L (L' := M' 54) hs I.2.2.2.2.2.1.2.2 (fun j h1 h2 => hL j (by omega) (by omega))
  unfold Inv
  rw [hc 0 (by decide) (by decide) (by decide) (by decide) (by decide) (by decide), hc 1 (by decide) (by decide) (by decide) (by decide) (by decide) (by decide), hc 2 (by decide) (by decide) (by decide) (by decide) (by decide) (by decide), hc 3 (by decide) (by decide) (by decide) (by decide) (by decide) (by decide), hc 4 (by decide) (by decide) (by decide) (by decide) (by decide) (by decide), hc 5 (by decide) (by decide) (by decide) (by decide) (by decide) (by decide), hc 6 (by decide) (by decide) (by decide) (by decide) (by decide) (by decide), hc 9 (by decide) (by decide) (by decide) (by decide) (by decide) (by decide), hc 10 (by decide) (by decide) (by decide) (by decide) (by decide) (by decide), hc 11 (by decide) (by decide) (by decide) (by decide) (by decide) (by decide)]
  rw [hc 12 (by decide) (by decide) (by decide) (by decide) (by decide) (by decide), hc 13 (by decide) (by decide) (by decide) (by decide) (by decide) (by decide), hc 20 (by decide) (by decide) (by decide) (by decide) (by decide) (by decide), hc 21 (by decide) (by decide) (by decide) (by decide) (by decide) (by decide), hc 22 (by decide) (by decide) (by decide) (by decide) (by decide) (by decide), hc 23 (by decide) (by decide) (by decide) (by decide) (by decide) (by decide), hc 24 (by decide) (by decide) (by decide) (by decide) (by decide) (by decide), hc 25 (by decide) (by decide) (by decide) (by decide) (by decide) (by decide), hc 26 (by decide) (by decide) (by decide) (by decide) (by decide) (by decide), hc 27 (by decide) (by decide) (by decide) (by decide) (by decide) (by decide)]
  rw [hc 28 (by decide) (by decide) (by decide) (by decide) (by decide) (by decide), hc 29 (by decide) (by decide) (by decide) (by decide) (by decide) (by decide), hc 30 (by decide) (by decide) (by decide) (by decide) (by decide) (by decide), hc 31 (by decide) (by decide) (by decide) (by decide) (by decide) (by decide), hc 32 (by decide) (by decide) (by decide) (by decide) (by decide) (by decide), hc 33 (by decide) (by decide) (by decide) (by decide) (by decide) (by decide), hc 34 (by decide) (by decide) (by decide) (by decide) (by decide) (by decide), hc 35 (by decide) (by decide) (by decide) (by decide) (by decide) (by decide), hc 52 (by decide) (by decide) (by decide) (by decide) (by decide) (by decide), hc 53 (by decide) (by decide) (by decide) (by decide) (by decide) (by decide)]
  rw [hc 55 (by decide) (by decide) (by decide) (by decide) (by decide) (by decide), hc 56 (by decide) (by decide) (by decide) (by decide) (by decide) (by decide), hc 57 (by decide) (by decide) (by decide) (by decide) (by decide) (by decide), hc 58 (by decide) (by decide) (by decide) (by decide) (by decide) (by decide), hc 59 (by decide) (by decide) (by decide) (by decide) (by decide) (by decide), hc 60 (by decide) (by decide) (by decide) (by decide) (by decide) (by decide), hc 61 (by decide) (by decide) (by decide) (by decide) (by decide) (by decide)]
  exact ⟨I.1, I.2.1, I.2.2.1, I.2.2.2.1, hD, ⟨k1, k2, k3⟩, I.2.2.2.2.2.2⟩
theorem sp_hasNoLand {M : am_M} (h : Gd11 M) : X_X8_hasNoLand_0 M = some (b2 (M 11 0 = 0), M) := by
  simp only [X_X8_hasNoLand_0, wI_of (x := M 11 0) (by have := h.1; omega) (by have := h.2.1; omega)]
  split
  · rw [b2_t (by assumption)]
  · rw [b2_f (by assumption)]
theorem sp_isCrown {c : Int} (M : am_M) (hc : iR c) : X_X8_isCrown c M = some (b2 (0 ≤ c ∧ c ≤ 1), M) := by
  simp only [X_X8_isCrown, wI_R hc]
  split
  · rw [b2_f (by omega)]
  · split
    · rw [b2_t (by omega)]
    · rw [b2_f (by omega)]
theorem eq_border {M : am_M} (I : Inv M) : Step X_X8_border_0 X_X9_border_53 M := by
  have hG := I.g11
  have hM := I.gM
  have es := I.2.2.2.1.1
  obtain ⟨o1, o2, o3, -⟩ := I.2.2.2.2.1.1
  by_cases c : M 11 0 = 0
  · refine st_same I (v := -4) (w := -4) ?_ ?_ rfl
    · simp only [X_X8_border_0, sp_hasNoLand hG, b2_t c, ob, w1, n10, if_false]
    · simp only [X_X9_border_53, es, c, wI_0, if_true]
  · refine ⟨M 14 1, M 54 1, cT (M 14 0) M, mT (M 54 0) (cT (M 14 0) M), ?_, ?_, ?_, ?_⟩
    · simp only [X_X8_border_0, sp_hasNoLand hG, b2_f c, ob, wI_0, if_true, sp_tell_0]
      rfl
    · have e1 : (cT (M 14 0) M) 53 1 = M 53 1 := rfl
      simp only [X_X9_border_53, e1, es, wI_of (x := M 11 0) (by have := hG.1; omega) (by have := hG.2.1; omega), if_neg c]
      rfl
    · rw [show M 54 1 = M 14 1 from o3]
    · rw [show M 54 0 = M 14 0 from o1]; exact inv_tell I _
theorem eq_rate {M : am_M} (I : Inv M) {c v : Int} (hc : iR c) (hv : iR v) : Step (X_X8_rate_0 c v) (X_X9_rate_53 c v) M := by
  have hG := I.g11
  have hM := I.gM
  have es := I.2.2.2.1.1
  have D := I.2.2.2.2.1
  obtain ⟨o1, o2, o3, o4, o5, o6, o7, o8, o9⟩ := D.1
  have i1 : iR 1 := by unfold iR; omega
  have i9 : iR 9 := by unfold iR; omega
  by_cases q1 : 0 ≤ c ∧ c ≤ 1
  · by_cases q2 : 1 ≤ v ∧ v ≤ 9
    · by_cases q3 : M 11 0 = 0
      · refine st_same I (v := -4) (w := -4) ?_ ?_ rfl
        · simp (disch := omega) only [X_X8_rate_0, sp_isCrown M hc, b2_t q1, ob, w1, n10, if_false, wI_R hv, if_neg, sp_hasNoLand hG, b2_t q3]
        · simp only [X_X9_rate_53, wI_R hc, wI_R hv, sp_in M hc i0 i1, sp_in M hv i1 i9, b2_t q1, b2_t q2, ob, w1, n10, if_false, es, q3, wI_0, if_true]
      · have w11 : wI (M 11 0) = M 11 0 := wI_of (by have := hG.1; omega) (by have := hG.2.1; omega)
        rcases (show c = 0 ∨ c = 1 by omega) with rfl | rfl
        · refine ⟨M 14 2, M 54 2, am_up M 14 2 v, am_up (am_up M 14 2 v) 54 2 v, ?_, ?_, by rw [show M 54 2 = M 14 2 from o5], ?_⟩
          · simp (disch := omega) only [X_X8_rate_0, sp_isCrown M hc, b2_t q1, ob, w1, n10, if_false, wI_R hv, if_neg, sp_hasNoLand hG, b2_f q3, wI_0, if_true, X_X1_rateOf_14, X_X1_setRate_14]
          · have e1 : (am_up M 14 2 v) 53 1 = M 11 0 := es
            have e2 : wI ((2 : Int) + 0) = 2 := rfl
            simp only [X_X9_rate_53, wI_R hc, wI_R hv, sp_in _ hc i0 i1, sp_in _ hv i1 i9, b2_t q1, b2_t q2, ob, w1, n10, if_false, e1, w11, if_neg q3, e2]
            rfl
          · refine inv_days I (fun a h1 h2 h3 h4 h5 h6 => by rw [up_a h6, up_a h1]) (fun j h1 h2 => by
              show (if j = 2 then v else M 54 j) = M 54 j
              rw [if_neg (by omega)]) ?_
            refine ⟨⟨o1, o2, o3, o4, rfl, o6, (by show 0 ≤ v ∧ v ≤ 9; omega), o8, o9⟩, ⟨D.2.1.1, fun j hj => ?_⟩, D.2.2.1, ⟨D.2.2.2.1.1, fun t i ht hi => ?_⟩, fun i hi => ?_⟩
            · have := D.2.1.2 j hj
              show (if 0 + 40 + j = 2 then v else M 54 (0 + 40 + j)) = _ ∧ 0 ≤ (if 0 + 80 + j = 2 then v else M 54 (0 + 80 + j)) ∧ (if 0 + 80 + j = 2 then v else M 54 (0 + 80 + j)) ≤ 99
              rw [if_neg (by omega), if_neg (by omega)]; exact this
            · have := D.2.2.2.1.2 t i ht hi
              show _ = due (M 12) (M 13) 0 i _ ((if 0 + 80 + (10 * t + 9) = 2 then v else M 54 (0 + 80 + (10 * t + 9))) / 10) ∧ _ = due (M 12) (M 13) 1 i _ ((if 0 + 80 + (10 * t + 9) = 2 then v else M 54 (0 + 80 + (10 * t + 9))) % 10)
              rw [if_neg (by omega)]; exact this
            · have := D.2.2.2.2 i hi
              have e : (fun j => (am_up (am_up M 14 2 v) 54 2 v) 54 (0 + 80 + j)) = fun j => M 54 (0 + 80 + j) := by
                funext j
                show (if 0 + 80 + j = 2 then v else M 54 (0 + 80 + j)) = _
                rw [if_neg (by omega)]
              rw [e]
              show (if 0 + 4 + 3 * i = 2 then v else M 54 (0 + 4 + 3 * i)) = _ ∧ (if 0 + 4 + 3 * i + 1 = 2 then v else M 54 (0 + 4 + 3 * i + 1)) = _ ∧ (if 0 + 4 + 3 * i + 2 = 2 then v else M 54 (0 + 4 + 3 * i + 2)) = _
              rw [if_neg (by omega), if_neg (by omega), if_neg (by omega)]; exact this
        · refine ⟨M 14 3, M 54 3, am_up M 14 3 v, am_up (am_up M 14 3 v) 54 3 v, ?_, ?_, by rw [show M 54 3 = M 14 3 from o6], ?_⟩
          · simp (disch := omega) only [X_X8_rate_0, sp_isCrown M hc, b2_t q1, ob, w1, n10, if_false, wI_R hv, if_neg, sp_hasNoLand hG, b2_f q3, wI_0, if_true, X_X1_rateOf_14, X_X1_setRate_14]
          · have e1 : (am_up M 14 3 v) 53 1 = M 11 0 := es
            have e2 : wI ((2 : Int) + 1) = 3 := rfl
            simp only [X_X9_rate_53, wI_R hc, wI_R hv, sp_in _ hc i0 i1, sp_in _ hv i1 i9, b2_t q1, b2_t q2, ob, w1, n10, if_false, e1, w11, if_neg q3, e2]
            rfl
          · refine inv_days I (fun a h1 h2 h3 h4 h5 h6 => by rw [up_a h6, up_a h1]) (fun j h1 h2 => by
              show (if j = 3 then v else M 54 j) = M 54 j
              rw [if_neg (by omega)]) ?_
            refine ⟨⟨o1, o2, o3, o4, o5, rfl, o7, (by show 0 ≤ v ∧ v ≤ 9; omega), o9⟩, ⟨D.2.1.1, fun j hj => ?_⟩, D.2.2.1, ⟨D.2.2.2.1.1, fun t i ht hi => ?_⟩, fun i hi => ?_⟩
            · have := D.2.1.2 j hj
              show (if 0 + 40 + j = 3 then v else M 54 (0 + 40 + j)) = _ ∧ 0 ≤ (if 0 + 80 + j = 3 then v else M 54 (0 + 80 + j)) ∧ (if 0 + 80 + j = 3 then v else M 54 (0 + 80 + j)) ≤ 99
              rw [if_neg (by omega), if_neg (by omega)]; exact this
            · have := D.2.2.2.1.2 t i ht hi
              show _ = due (M 12) (M 13) 0 i _ ((if 0 + 80 + (10 * t + 9) = 3 then v else M 54 (0 + 80 + (10 * t + 9))) / 10) ∧ _ = due (M 12) (M 13) 1 i _ ((if 0 + 80 + (10 * t + 9) = 3 then v else M 54 (0 + 80 + (10 * t + 9))) % 10)
              rw [if_neg (by omega)]; exact this
            · have := D.2.2.2.2 i hi
              have e : (fun j => (am_up (am_up M 14 3 v) 54 3 v) 54 (0 + 80 + j)) = fun j => M 54 (0 + 80 + j) := by
                funext j
                show (if 0 + 80 + j = 3 then v else M 54 (0 + 80 + j)) = _
                rw [if_neg (by omega)]
              rw [e]
              show (if 0 + 4 + 3 * i = 3 then v else M 54 (0 + 4 + 3 * i)) = _ ∧ (if 0 + 4 + 3 * i + 1 = 3 then v else M 54 (0 + 4 + 3 * i + 1)) = _ ∧ (if 0 + 4 + 3 * i + 2 = 3 then v else M 54 (0 + 4 + 3 * i + 2)) = _
              rw [if_neg (by omega), if_neg (by omega), if_neg (by omega)]; exact this
    · refine st_same I (v := -1) (w := -1) ?_ ?_ rfl
      · by_cases q4 : v < 1
        · simp (disch := omega) only [X_X8_rate_0, sp_isCrown M hc, b2_t q1, ob, w1, n10, if_false, wI_R hv, if_pos]
        · simp (disch := omega) only [X_X8_rate_0, sp_isCrown M hc, b2_t q1, ob, w1, n10, if_false, wI_R hv, if_pos, if_neg]
      · simp only [X_X9_rate_53, wI_R hc, wI_R hv, sp_in M hc i0 i1, sp_in M hv i1 i9, b2_t q1, b2_f q2, ob, w1, n10, if_false, wI_0, if_true]
  · refine st_same I (v := -1) (w := -1) ?_ ?_ rfl
    · simp only [X_X8_rate_0, sp_isCrown M hc, b2_f q1, ob, wI_0, if_true]
    · simp only [X_X9_rate_53, wI_R hc, sp_in M hc i0 i1, b2_f q1, ob, wI_0, if_true]
