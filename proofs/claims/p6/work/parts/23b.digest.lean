/-! What a strip tells; what a crown got; the digest. -/
theorem td10 {d : Int} (h : 0 ≤ d) : d.tdiv 10 = d / 10 := Int.tdiv_eq_ediv_of_nonneg h
theorem lp_paid (k : Int → am_M → am_Rs) (M : am_M) (i c : Nat) (hi : i < 12) (hc : c < 2) (hd : 0 ≤ M 14 0 ∧ M 14 0 ≤ 40) : ∀ (e n : Nat) (acc : Int) (t : Nat), (t : Int) + e = M 14 0 / 10 → e < n → XL_X1_paidBy_14_1 k n i c acc t M = k (acc + sf (fun t => M 18 ((t * 12 + i) * 2 + c)) t e) M
  | 0, n + 1, acc, t, ht, hn => by
    rw [XL_X1_paidBy_14_1, XB_X1_paidBy_14_1, wI_of (x := M 14 0) (by omega) (by omega), td10 hd.1, wI_of (x := (t : Int)) (by omega) (by omega), wI_of (x := M 14 0 / 10) (by omega) (by omega), if_neg (by omega)]
    simp only [sf, Int.add_zero]
  | e + 1, n + 1, acc, t, ht, hn => by
    have ih := lp_paid k M i c hi hc hd e n (acc + M 18 ((t * 12 + i) * 2 + c)) (t + 1) (by push_cast; omega) (by omega)
    have e1 : ∀ _ : Unit, wI (((t : Int) * 12 + i) * 2 + c) = (((t * 12 + i) * 2 + c : Nat) : Int) := fun _ => by rw [wI_of (by omega) (by omega)]; push_cast; rfl
    rw [XL_X1_paidBy_14_1, XB_X1_paidBy_14_1, wI_of (x := M 14 0) (by omega) (by omega), td10 hd.1, wI_of (x := (t : Int)) (by omega) (by omega), wI_of (x := M 14 0 / 10) (by omega) (by omega), if_pos (by omega), X_X1_slotOf, ob]
    simp only [e1 (), Int.toNat_natCast]
    rw [if_neg (by omega), if_pos (by omega), if_pos (by omega), show (t : Int) + 1 = ((t + 1 : Nat) : Int) from rfl, ih]
    simp only [sf, Int.add_assoc]
theorem sp_paid {M : am_M} {i c : Nat} (hi : i < 12) (hc : c < 2) (hd : 0 ≤ M 14 0 ∧ M 14 0 ≤ 40) : X_X1_paidBy_14 i c M = some (sf (fun t => M 18 ((t * 12 + i) * 2 + c)) 0 (M 14 0 / 10).toNat, M) := by
  rw [X_X1_paidBy_14, XB_X1_paidBy_14_e]
  have := lp_paid XB_X1_paidBy_14_6 M i c hi hc hd (M 14 0 / 10).toNat 1000 0 0 (by omega) (by omega)
  rw [show ((0 : Nat) : Int) = 0 from rfl, Int.zero_add] at this
  rw [this]
  rfl
theorem tot_sf {kd du h R p : Nat → Int} {c : Int} {i : Nat} : ∀ (n : Nat), (∀ t, t < n → p t = due kd du c i (h (10 * t + 10)) (if c = 0 then R (10 * t + 9) / 10 else R (10 * t + 9) % 10)) → sf p 0 n = tot kd du h R c i n
  | 0, _ => rfl
  | n + 1, hp => by
    rw [sf_last, tot_sf n (fun t ht => hp t (by omega)), Nat.zero_add, hp n (by omega)]
    rfl
theorem lp_changes (k : Int → am_M → am_Rs) (M : am_M) (i : Nat) (hi : i < 12) (hd : 0 ≤ M 14 0 ∧ M 14 0 ≤ 40) (hh : ∀ j, 0 ≤ M 17 j ∧ M 17 j ≤ 12) : ∀ (e n : Nat) (acc : Int) (t : Nat), (t : Int) + e = M 14 0 → e < n → XL_X1_changesOf_14_1 k n i acc t M = k (acc + sf (fun j => if crw i (M 17 j) = crw i (M 17 (j + 1)) then 0 else 1) t e) M
  | 0, n + 1, acc, t, ht, hn => by
    rw [XL_X1_changesOf_14_1, XB_X1_changesOf_14_1, wI_of (x := M 14 0) (by omega) (by omega), wI_of (x := (t : Int)) (by omega) (by omega), if_neg (by omega)]
    simp only [sf, Int.add_zero]
  | e + 1, n + 1, acc, t, ht, hn => by
    have ih := lp_changes k M i hi hd hh e n (acc + (if crw i (M 17 t) = crw i (M 17 (t + 1)) then 0 else 1)) (t + 1) (by push_cast; omega) (by omega)
    have a1 : X_X1_borderAhead_14 (t : Int) M = some (M 17 t, M) := by
      rw [X_X1_borderAhead_14, wI_of (x := (t : Int)) (by omega) (by omega), if_neg (by omega), if_neg (by omega), if_pos (by omega), Int.toNat_natCast]
    have a2 : X_X1_borderAhead_14 ((t : Int) + 1) M = some (M 17 (t + 1), M) := by
      rw [X_X1_borderAhead_14, wI_of (x := (t : Int) + 1) (by omega) (by omega), if_neg (by omega), if_neg (by omega), if_pos (by omega), show ((t : Int) + 1).toNat = t + 1 by omega]
    have q1 := hh t
    have q2 := hh (t + 1)
    have r1 : ∀ b : Int, 0 ≤ crw i b ∧ crw i b ≤ 1 := fun b => by unfold crw; split <;> omega
    have w1 : ∀ b : Int, wI (crw i b) = crw i b := fun b => wI_of (by have := r1 b; omega) (by have := r1 b; omega)
    rw [XL_X1_changesOf_14_1, XB_X1_changesOf_14_1, wI_of (x := M 14 0) (by omega) (by omega), wI_of (x := (t : Int)) (by omega) (by omega), if_pos (by omega), a1, ob]
    dsimp only
    rw [sp_crownOf i (M 17 t) M (by unfold iR; omega) (by unfold iR; omega), ob]
    dsimp only
    rw [a2, ob]
    dsimp only
    rw [sp_crownOf i (M 17 (t + 1)) M (by unfold iR; omega) (by unfold iR; omega), ob]
    dsimp only
    rw [w1, w1, show (t : Int) + 1 = ((t + 1 : Nat) : Int) from rfl]
    simp only [sf]
    rw [← Int.add_assoc]
    by_cases c : crw i (M 17 t) = crw i (M 17 (t + 1))
    · rw [if_pos c] at ih ⊢; rw [if_pos c]; rw [Int.add_zero] at ih ⊢; exact ih
    · rw [if_neg c] at ih ⊢; rw [if_neg c]; exact ih
theorem chg_sf {h : Nat → Int} {i : Int} : ∀ (n : Nat), sf (fun j => if crw i (h j) = crw i (h (j + 1)) then 0 else 1) 0 n = chg h i n
  | 0 => rfl
  | n + 1 => by
    rw [sf_last, chg_sf n, Nat.zero_add]
    rfl
theorem sp_changes {M : am_M} {i : Nat} (hi : i < 12) (hd : 0 ≤ M 14 0 ∧ M 14 0 ≤ 40) (hh : ∀ j, 0 ≤ M 17 j ∧ M 17 j ≤ 12) : X_X1_changesOf_14 i M = some (chg (M 17) i (M 14 0).toNat, M) := by
  rw [X_X1_changesOf_14, XB_X1_changesOf_14_e]
  have := lp_changes XB_X1_changesOf_14_5 M i hi hd hh (M 14 0).toNat 1000 0 0 (by omega) (by omega)
  rw [show ((0 : Nat) : Int) = 0 from rfl, Int.zero_add, chg_sf] at this
  rw [this]
  rfl
/-- what a strip tells -/
noncomputable def fct (M : am_M) (i : Nat) : Nat → Int
  | 0 => M 12 i
  | 1 => M 13 i
  | 2 => crw i (M 14 1)
  | 3 => M 54 (4 + 3 * i)
  | 4 => M 54 (4 + 3 * i + 1)
  | _ => M 54 (4 + 3 * i + 2)
theorem paid_eq {M : am_M} (I : Inv M) {i : Nat} (hi : (i : Int) < M 11 0) : sf (fun t => M 18 ((t * 12 + i) * 2 + 0)) 0 (M 14 0 / 10).toNat = M 54 (4 + 3 * i) ∧ sf (fun t => M 18 ((t * 12 + i) * 2 + 1)) 0 (M 14 0 / 10).toNat = M 54 (4 + 3 * i + 1) := by
  obtain ⟨⟨o1, o2, -⟩, -, -, ⟨-, p2⟩, hT⟩ := I.2.2.2.2.1
  have h := hT i hi
  rw [Nat.zero_add] at h
  refine ⟨?_, ?_⟩
  · rw [h.1]
    exact tot_sf _ fun t ht => by rw [if_pos rfl]; exact (p2 t i (by omega) hi).1
  · rw [h.2.1]
    exact tot_sf _ fun t ht => by rw [if_neg (by decide)]; exact (p2 t i (by omega) hi).2
theorem sp_fact {M : am_M} (I : Inv M) {i : Nat} (hi : (i : Int) < M 11 0) : ∀ w : Nat, w < 6 → X_X8_stripFact_0 i w M = some (fct M i w, M) := by
  have h12 := I.2.2.2.1.2.2.1
  have hd := I.2.2.2.2.1.1.2.1
  have hb := I.2.2.2.2.1.1.2.2.2.1
  have hh := I.2.2.2.2.1.2.2.1.2.2.1
  have hT := I.2.2.2.2.1.2.2.2.2 i hi
  have iRi : iR (i : Int) := by unfold iR; omega
  have hp := paid_eq I hi
  intro w hw
  match w, hw with
  | 0, _ =>
    rw [X_X8_stripFact_0, if_pos (show wI ((0 : Nat) : Int) = 0 from rfl), sp_kindOf_11 I.g11 iRi, if_pos ⟨by omega, hi⟩, ob, Int.toNat_natCast]; rfl
  | 1, _ =>
    rw [X_X8_stripFact_0, if_neg (show ¬ wI ((1 : Nat) : Int) = 0 by decide), if_pos (show wI ((1 : Nat) : Int) = 0 + 1 from rfl), sp_dueOf_11 I.g11 iRi, if_pos ⟨by omega, hi⟩, ob, Int.toNat_natCast]; rfl
  | 2, _ =>
    show (X_X2_crownOf i (M 14 1) M).bind _ = _
    rw [sp_crownOf i (M 14 1) M iRi (by unfold iR; omega), ob]; rfl
  | 3, _ =>
    show (X_X1_paidBy_14 i 0 M).bind _ = _
    rw [show (0 : Int) = ((0 : Nat) : Int) from rfl, sp_paid (by omega) (by omega) hd, ob, hp.1]; rfl
  | 4, _ =>
    show (X_X1_paidBy_14 i 1 M).bind _ = _
    rw [show (1 : Int) = ((1 : Nat) : Int) from rfl, sp_paid (by omega) (by omega) hd, ob, hp.2]; rfl
  | 5, _ =>
    show (X_X1_changesOf_14 i M).bind _ = _
    rw [sp_changes (by omega) hd hh, ob, ← hT.2.2, Nat.zero_add]; rfl
theorem sp_told {M N : am_M} (I : Inv M) (h54 : N 54 = M 54) (h55 : N 55 = M 55) (h56 : N 56 = M 56) {i : Nat} (hi : (i : Int) < M 11 0) : ∀ w : Nat, w < 6 → X_X9_toldOf_53 i w N = some (fct M i w, N) := by
  have h12 := I.2.2.2.1.2.2.1
  have hg := I.2.2.2.1.2.2.2.2.2.2.2.1 i hi
  have o3 : M 54 1 = M 14 1 := I.2.2.2.2.1.1.2.2.1
  have hb := I.2.2.2.2.1.1.2.2.2.1
  have wi : ∀ _ : Unit, wI (i : Int) = (i : Int) := fun _ => wI_of (by omega) (by omega)
  intro w hw
  match w, hw with
  | 0, _ =>
    rw [X_X9_toldOf_53, if_pos (show wI ((0 : Nat) : Int) = 0 from rfl), wi (), if_pos (by omega), Int.toNat_natCast, h55, hg.1]; rfl
  | 1, _ =>
    rw [X_X9_toldOf_53, if_neg (show ¬ wI ((1 : Nat) : Int) = 0 by decide), if_pos (show wI ((1 : Nat) : Int) = 0 + 1 from rfl), wi (), if_pos (by omega), Int.toNat_natCast, h56, hg.2]; rfl
  | 2, _ =>
    show (if wI (i : Int) < wI (N 54 1) then some (0, N) else some (1, N)) = some (crw i (M 14 1), N)
    rw [wi (), h54, o3, wI_of (x := M 14 1) (by omega) (by omega)]
    unfold crw
    split <;> rfl
  | 3, _ =>
    show (if 0 ≤ wI (4 + 3 * (i : Int) + 3 - 3) ∧ wI (4 + 3 * (i : Int) + 3 - 3) < 605 then some (N 54 (wI (4 + 3 * (i : Int) + 3 - 3)).toNat, N) else none) = _
    rw [wI_of (x := 4 + 3 * (i : Int) + 3 - 3) (by omega) (by omega), if_pos (by omega), show (4 + 3 * (i : Int) + 3 - 3).toNat = 4 + 3 * i by omega, h54]; rfl
  | 4, _ =>
    show (if 0 ≤ wI (4 + 3 * (i : Int) + 4 - 3) ∧ wI (4 + 3 * (i : Int) + 4 - 3) < 605 then some (N 54 (wI (4 + 3 * (i : Int) + 4 - 3)).toNat, N) else none) = _
    rw [wI_of (x := 4 + 3 * (i : Int) + 4 - 3) (by omega) (by omega), if_pos (by omega), show (4 + 3 * (i : Int) + 4 - 3).toNat = 4 + 3 * i + 1 by omega, h54]; rfl
  | 5, _ =>
    show (if 0 ≤ wI (4 + 3 * (i : Int) + 5 - 3) ∧ wI (4 + 3 * (i : Int) + 5 - 3) < 605 then some (N 54 (wI (4 + 3 * (i : Int) + 5 - 3)).toNat, N) else none) = _
    rw [wI_of (x := 4 + 3 * (i : Int) + 5 - 3) (by omega) (by omega), if_pos (by omega), show (4 + 3 * (i : Int) + 5 - 3).toNat = 4 + 3 * i + 2 by omega, h54]; rfl
theorem eq_strip {M : am_M} (I : Inv M) {i w : Int} (hi : iR i) (hw : iR w) : Step (X_X8_strip_0 i w) (X_X9_strip_53 i w) M := by
  have i5 : iR 5 := by unfold iR; omega
  have es := I.2.2.2.1.1
  have hs : 0 ≤ M 53 1 ∧ M 53 1 ≤ 12 := ⟨I.gM.1, I.gM.2.1⟩
  by_cases c : 0 ≤ i ∧ i < M 11 0
  · by_cases c2 : 0 ≤ w ∧ w ≤ 5
    · obtain ⟨x, rfl⟩ := Int.eq_ofNat_of_zero_le c.1
      obtain ⟨y, rfl⟩ := Int.eq_ofNat_of_zero_le c2.1
      refine st_tell I (v := fct M x y) (w := fct M x y) rfl ?_ ?_
      · rw [X_X8_strip_0, sp_has_11 I.g11 hi, b2_t c, ob, if_neg (by rw [w1]; decide), wI_R hw, if_neg (by omega), if_pos (by omega)]
        rw [sp_fact I c.2 y (by omega), ob, sp_tell_0, ob]
      · have hs' : 0 ≤ (cT (fct M x y) M) 53 1 ∧ (cT (fct M x y) M) 53 1 ≤ 12 := hs
        have es' : (cT (fct M x y) M) 53 1 = M 11 0 := es
        rw [X_X9_strip_53, sp_isStrip hs' hi, es', b2_t c, ob, if_neg (by rw [w1]; decide), wI_R hw, sp_in _ hw i0 i5, b2_t c2, ob, if_neg (by rw [w1]; decide)]
        rw [sp_told (N := cT (fct M x y) M) I rfl rfl rfl c.2 y (by omega), ob, sp_tell_53, ob]
    · refine st_same I (v := -1) (w := -1) ?_ ?_ rfl
      · rw [X_X8_strip_0, sp_has_11 I.g11 hi, b2_t c, ob, if_neg (by rw [w1]; decide), wI_R hw]
        by_cases c3 : w < 0
        · rw [if_pos c3]
        · rw [if_neg c3, if_neg (by omega)]
      · rw [X_X9_strip_53, sp_isStrip hs hi, es, b2_t c, ob, if_neg (by rw [w1]; decide), wI_R hw, sp_in _ hw i0 i5, b2_f c2, ob]
        exact if_pos wI_0
  · refine st_same I (v := -1) (w := -1) ?_ ?_ rfl
    · rw [X_X8_strip_0, sp_has_11 I.g11 hi, b2_f c, ob]; exact if_pos wI_0
    · rw [X_X9_strip_53, sp_isStrip hs hi, es, b2_f c, ob]; exact if_pos wI_0
theorem lp_gotc (k : Int → am_M → am_Rs) (M : am_M) (c : Nat) (hc : c < 2) (hs : 0 ≤ M 11 0 ∧ M 11 0 ≤ 12) (F : Nat → Int) (hP : ∀ i : Nat, (i : Int) < M 11 0 → X_X1_paidBy_14 i c M = some (F i, M)) : ∀ (e n : Nat) (acc : Int) (i : Nat), (i : Int) + e = M 11 0 → e < n → XL_X8_got_0_3 k n c acc i M = k (acc + sf F i e) M
  | 0, n + 1, acc, i, hi, hn => by
    rw [XL_X8_got_0_3, XB_X8_got_0_3, wI_of (x := M 11 0) (by omega) (by omega), wI_of (x := (i : Int)) (by omega) (by omega), if_neg (by omega)]
    simp only [sf, Int.add_zero]
  | e + 1, n + 1, acc, i, hi, hn => by
    have ih := lp_gotc k M c hc hs F hP e n (acc + F i) (i + 1) (by push_cast; omega) (by omega)
    rw [XL_X8_got_0_3, XB_X8_got_0_3, wI_of (x := M 11 0) (by omega) (by omega), wI_of (x := (i : Int)) (by omega) (by omega), if_pos (by omega), hP i (by omega), ob]
    dsimp only
    rw [show (i : Int) + 1 = ((i + 1 : Nat) : Int) from rfl, ih]
    simp only [sf, Int.add_assoc]
theorem lp_gotm (k : Int → am_M → am_Rs) (M : am_M) (c : Nat) (hc : c < 2) (hs : 0 ≤ M 53 1 ∧ M 53 1 ≤ 12) : ∀ (e n : Nat) (acc : Int) (i : Nat), (i : Int) + e = M 53 1 → e < n → XL_X9_got_53_3 k n c acc i M = k (acc + sf (fun i => M 54 (4 + 3 * i + c)) i e) M
  | 0, n + 1, acc, i, hi, hn => by
    rw [XL_X9_got_53_3, XB_X9_got_53_3, wI_of (x := M 53 1) (by omega) (by omega), wI_of (x := (i : Int)) (by omega) (by omega), if_neg (by omega)]
    simp only [sf, Int.add_zero]
  | e + 1, n + 1, acc, i, hi, hn => by
    have ih := lp_gotm k M c hc hs e n (acc + M 54 (4 + 3 * i + c)) (i + 1) (by push_cast; omega) (by omega)
    rw [XL_X9_got_53_3, XB_X9_got_53_3, wI_of (x := M 53 1) (by omega) (by omega), wI_of (x := (i : Int)) (by omega) (by omega), if_pos (by omega), wI_of (x := 4 + 3 * (i : Int) + c) (by omega) (by omega), if_pos (by omega), show (4 + 3 * (i : Int) + c).toNat = 4 + 3 * i + c by omega, show (i : Int) + 1 = ((i + 1 : Nat) : Int) from rfl, ih]
    simp only [sf, Int.add_assoc]
theorem eq_got {M : am_M} (I : Inv M) {c : Int} (hc : iR c) : Step (X_X8_got_0 c) (X_X9_got_53 c) M := by
  have i1 : iR 1 := by unfold iR; omega
  have es := I.2.2.2.1.1
  have hs : 0 ≤ M 53 1 ∧ M 53 1 ≤ 12 := ⟨I.gM.1, I.gM.2.1⟩
  have hs' : 0 ≤ M 11 0 ∧ M 11 0 ≤ 12 := ⟨I.g11.1, I.g11.2.1⟩
  have hd := I.2.2.2.2.1.1.2.1
  by_cases q : 0 ≤ c ∧ c ≤ 1
  · obtain ⟨x, hx⟩ := Int.eq_ofNat_of_zero_le q.1
    have hx2 : x < 2 := by omega
    refine st_same I (v := sf (fun i => M 54 (4 + 3 * i + x)) 0 (M 11 0).toNat) (w := sf (fun i => M 54 (4 + 3 * i + x)) 0 (M 11 0).toNat) ?_ ?_ rfl
    · rw [X_X8_got_0, XB_X8_got_0_e, sp_isCrown M hc, b2_t q, ob, if_neg (by rw [w1]; decide), hx]
      have := lp_gotc XB_X8_got_0_5 M x hx2 hs' (fun i => M 54 (4 + 3 * i + x)) (fun i hi => by
        have hp := paid_eq I hi
        rw [sp_paid (by omega) hx2 hd]
        rcases (show x = 0 ∨ x = 1 by omega) with rfl | rfl
        · rw [hp.1]; rfl
        · rw [hp.2]) (M 11 0).toNat 1000 0 0 (by omega) (by omega)
      rw [show ((0 : Nat) : Int) = 0 from rfl, Int.zero_add] at this
      rw [this]; rfl
    · rw [X_X9_got_53, XB_X9_got_53_e, wI_R hc, sp_in M hc i0 i1, b2_t q, ob, if_neg (by rw [w1]; decide), hx]
      have := lp_gotm XB_X9_got_53_5 M x hx2 hs (M 11 0).toNat 1000 0 0 (by omega) (by omega)
      rw [show ((0 : Nat) : Int) = 0 from rfl, Int.zero_add] at this
      rw [this]; rfl
  · refine st_same I (v := -1) (w := -1) ?_ ?_ rfl
    · rw [X_X8_got_0, XB_X8_got_0_e, sp_isCrown M hc, b2_f q, ob]; exact if_pos wI_0
    · rw [X_X9_got_53, XB_X9_got_53_e, wI_R hc, sp_in M hc i0 i1, b2_f q, ob]; exact if_pos wI_0
/-- the digest's own step, over a row of numbers -/
noncomputable def dg (f : Nat → Int) : Nat → Nat → Int → Int
  | _, 0, h => h
  | i, d + 1, h => dg f (i + 1) d (31 * h + wI (f i))
theorem dg_c {f g : Nat → Int} : ∀ (d i : Nat) (h : Int), (∀ j, i ≤ j → j < i + d → f j = g j) → dg f i d h = dg g i d h
  | 0, i, h, _ => rfl
  | d + 1, i, h, hf => by
    simp only [dg]
    rw [hf i (by omega) (by omega), dg_c d (i + 1) _ (fun j h1 h2 => hf j (by omega) (by omega))]
theorem dg_add {f : Nat → Int} : ∀ (d e i : Nat) (h : Int), dg f i (d + e) h = dg f (i + d) e (dg f i d h)
  | 0, e, i, h => by simp [dg]
  | d + 1, e, i, h => by
    rw [show d + 1 + e = (d + e) + 1 by omega]
    simp only [dg]
    rw [dg_add d e (i + 1), show i + 1 + d = i + (d + 1) by omega]
theorem dg_sh {f : Nat → Int} (z : Nat) : ∀ (d i : Nat) (h : Int), dg (fun j => f (z + j)) i d h = dg f (z + i) d h
  | 0, i, h => rfl
  | d + 1, i, h => by
    simp only [dg]
    rw [dg_sh z d (i + 1), show z + (i + 1) = z + i + 1 by omega]
theorem lp_d1c (k : Int → am_M → am_Rs) (M : am_M) (I : Inv M) : ∀ (e n : Nat) (h : Int) (v : Nat), v + e = 9 → e < n → XL_X8_digest_0_1 k n h v M = k (dg (cnt M) v e h) M
  | 0, n + 1, h, v, hv, hn => by
    rw [XL_X8_digest_0_1, XB_X8_digest_0_1, wI_of (x := (v : Int)) (by omega) (by omega), if_neg (by omega)]; rfl
  | e + 1, n + 1, h, v, hv, hn => by
    have ih := lp_d1c k M I e n (31 * h + wI (cnt M v)) (v + 1) (by omega) (by omega)
    rw [XL_X8_digest_0_1, XB_X8_digest_0_1, wI_of (x := (v : Int)) (by omega) (by omega), if_pos (by omega), sp_count_c I v (by omega), ob]
    dsimp only
    rw [show (v : Int) + 1 = ((v + 1 : Nat) : Int) from rfl, ih]; rfl
theorem lp_d1m (k : Int → am_M → am_Rs) (M : am_M) (I : Inv M) : ∀ (e n : Nat) (h : Int) (v : Nat), v + e = 9 → e < n → XL_X9_digest_53_1 k n h v M = k (dg (cnt M) v e h) M
  | 0, n + 1, h, v, hv, hn => by
    rw [XL_X9_digest_53_1, XB_X9_digest_53_1, wI_of (x := (v : Int)) (by omega) (by omega), if_neg (by omega)]; rfl
  | e + 1, n + 1, h, v, hv, hn => by
    have ih := lp_d1m k M I e n (31 * h + wI (cnt M v)) (v + 1) (by omega) (by omega)
    rw [XL_X9_digest_53_1, XB_X9_digest_53_1, wI_of (x := (v : Int)) (by omega) (by omega), if_pos (by omega), sp_count_m I v (by omega), ob]
    dsimp only
    rw [show (v : Int) + 1 = ((v + 1 : Nat) : Int) from rfl, ih]; rfl
/-- the facts of all strips in one row -/
noncomputable def fcs (M : am_M) (k : Nat) : Int := fct M (k / 6) (k % 6)
theorem lp_d6c (k : Int → Int → am_M → am_Rs) (M : am_M) (I : Inv M) (i : Nat) (hi : (i : Int) < M 11 0) : ∀ (e n : Nat) (h : Int) (w : Nat), w + e = 6 → e < n → XL_X8_digest_0_6 k n h i w M = k (dg (fcs M) (6 * i + w) e h) i M
  | 0, n + 1, h, w, hw, hn => by
    rw [XL_X8_digest_0_6, XB_X8_digest_0_6, wI_of (x := (w : Int)) (by omega) (by omega), if_neg (by omega)]; rfl
  | e + 1, n + 1, h, w, hw, hn => by
    have ih := lp_d6c k M I i hi e n (31 * h + wI (fct M i w)) (w + 1) (by omega) (by omega)
    have e1 : fcs M (6 * i + w) = fct M i w := by
      unfold fcs
      rw [show (6 * i + w) / 6 = i by omega, show (6 * i + w) % 6 = w by omega]
    rw [XL_X8_digest_0_6, XB_X8_digest_0_6, wI_of (x := (w : Int)) (by omega) (by omega), if_pos (by omega), sp_fact I hi w (by omega), ob]
    dsimp only
    rw [show (w : Int) + 1 = ((w + 1 : Nat) : Int) from rfl, ih]
    simp only [dg]
    rw [e1]; rfl
theorem lp_d4c (k : Int → am_M → am_Rs) (M : am_M) (I : Inv M) : ∀ (e n : Nat) (h : Int) (i : Nat), (i : Int) + e = M 11 0 → e < n → XL_X8_digest_0_4 k n h i M = k (dg (fcs M) (6 * i) (6 * e) h) M
  | 0, n + 1, h, i, hi, hn => by
    have h12 := I.2.2.2.1.2.2.1
    rw [XL_X8_digest_0_4, XB_X8_digest_0_4, wI_of (x := (i : Int)) (by omega) (by omega), wI_of (x := M 11 0) (by omega) (by omega), if_neg (by omega)]; rfl
  | e + 1, n + 1, h, i, hi, hn => by
    have h12 := I.2.2.2.1.2.2.1
    have ih := lp_d4c k M I e n (dg (fcs M) (6 * i) 6 h) (i + 1) (by push_cast; omega) (by omega)
    rw [XL_X8_digest_0_4, XB_X8_digest_0_4, wI_of (x := (i : Int)) (by omega) (by omega), wI_of (x := M 11 0) (by omega) (by omega), if_pos (by omega)]
    have := lp_d6c (XB_X8_digest_0_8 (XL_X8_digest_0_4 k n)) M I i (by omega) 6 1000 h 0 (by omega) (by omega)
    rw [show ((0 : Nat) : Int) = 0 from rfl, Nat.add_zero] at this
    rw [this, XB_X8_digest_0_8, show (i : Int) + 1 = ((i + 1 : Nat) : Int) from rfl, ih, show 6 * (e + 1) = 6 + 6 * e by omega, dg_add, show 6 * (i + 1) = 6 * i + 6 by omega]
theorem lp_d4m (k : Int → am_M → am_Rs) (M : am_M) (I : Inv M) : ∀ (e n : Nat) (h : Int) (v : Nat), (v : Int) + e = 6 * M 11 0 → e < n → XL_X9_digest_53_4 k n h v M = k (dg (fcs M) v e h) M
  | 0, n + 1, h, v, hv, hn => by
    have h12 := I.2.2.2.1.2.2.1
    have es := I.2.2.2.1.1
    rw [XL_X9_digest_53_4, XB_X9_digest_53_4, es, wI_of (x := (v : Int)) (by omega) (by omega), wI_of (x := 6 * M 11 0) (by omega) (by omega), if_neg (by omega)]; rfl
  | e + 1, n + 1, h, v, hv, hn => by
    have h12 := I.2.2.2.1.2.2.1
    have es := I.2.2.2.1.1
    have ih := lp_d4m k M I e n (31 * h + wI (fcs M v)) (v + 1) (by push_cast; omega) (by omega)
    have t1 : ((v : Int)).tdiv 6 = ((v / 6 : Nat) : Int) := by rw [Int.tdiv_eq_ediv_of_nonneg (by omega)]; omega
    have t2 : ((v : Int)).tmod 6 = ((v % 6 : Nat) : Int) := by rw [Int.tmod_eq_emod_of_nonneg (by omega)]; omega
    rw [XL_X9_digest_53_4, XB_X9_digest_53_4, es, wI_of (x := (v : Int)) (by omega) (by omega), wI_of (x := 6 * M 11 0) (by omega) (by omega), if_pos (by omega), t1, t2, sp_told I rfl rfl rfl (i := v / 6) (by omega) (v % 6) (by omega), ob]
    dsimp only
    rw [show (v : Int) + 1 = ((v + 1 : Nat) : Int) from rfl, show fct M (v / 6) (v % 6) = fcs M v from rfl, ih]; rfl
theorem lp_d10c (k : Int → am_M → am_Rs) (M : am_M) : ∀ (e n : Nat) (h : Int) (v : Nat), v + e = 3 → e < n → XL_X8_digest_0_10 k n h v M = k (dg (M 35) v e h) M
  | 0, n + 1, h, v, hv, hn => by
    rw [XL_X8_digest_0_10, XB_X8_digest_0_10, wI_of (x := (v : Int)) (by omega) (by omega), if_neg (by omega)]; rfl
  | e + 1, n + 1, h, v, hv, hn => by
    have ih := lp_d10c k M e n (31 * h + wI (M 35 v)) (v + 1) (by omega) (by omega)
    rw [XL_X8_digest_0_10, XB_X8_digest_0_10, wI_of (x := (v : Int)) (by omega) (by omega), if_pos (by omega), if_pos (by omega), Int.toNat_natCast, show (v : Int) + 1 = ((v + 1 : Nat) : Int) from rfl, ih]; rfl
theorem lp_d7m (k : Int → am_M → am_Rs) (M : am_M) (I : Inv M) : ∀ (e n : Nat) (h : Int) (v : Nat), v + e = 3 → e < n → XL_X9_digest_53_7 k n h ((v : Int) + 1) M = k (dg (M 35) v e h) M
  | 0, n + 1, h, v, hv, hn => by
    rw [XL_X9_digest_53_7, XB_X9_digest_53_7, wI_of (x := (v : Int) + 1) (by omega) (by omega), if_neg (by omega)]; rfl
  | e + 1, n + 1, h, v, hv, hn => by
    have ih := lp_d7m k M I e n (31 * h + wI (M 35 v)) (v + 1) (by omega) (by omega)
    rw [XL_X9_digest_53_7, XB_X9_digest_53_7, wI_of (x := (v : Int) + 1) (by omega) (by omega), if_pos (by omega), wI_of (x := 121 * ((v : Int) + 1) + 0) (by omega) (by omega), if_pos (by omega), show (121 * ((v : Int) + 1) + 0).toNat = 121 * (1 + v) by omega, (I.k35 v (by omega)).1, show (v : Int) + 1 = ((v + 1 : Nat) : Int) from rfl, ih]; rfl
/-- a shelf's digest -/
noncomputable def dgR (w : Nat) (a b : Nat → Int) : Nat → Nat → Int → Int
  | _, 0, h => h
  | r, d + 1, h => dgR w a b (r + 1) d (dg (fun j => b (w * r + j)) 0 (a r).toNat (31 * h + wI (a r)))
theorem lp_dr_1 (k : Int → Int → am_M → am_Rs) (M : am_M) (h : Sh1 M) (r : Nat) (hr : r < 6) : ∀ (e n : Nat) (g : Int) (i : Nat), (i : Int) + e = max 0 (M 2 r) → e < n → XL_X6_digestOnto_1_3 k n g r i M = k (dg (fun j => M 3 (40 * r + j)) i e g) r M
  | 0, n + 1, g, i, hi, hn => by
    have h1 := h.2.2.2 r
    rw [XL_X6_digestOnto_1_3, XB_X6_digestOnto_1_3, sp_sizeOf_1 h (by unfold iR; omega), if_pos (by omega), Int.toNat_natCast, ob]
    dsimp only
    rw [wI_of (x := (i : Int)) (by omega) (by omega), wI_of (x := M 2 r) (by omega) (by omega), if_neg (by omega)]; rfl
  | e + 1, n + 1, g, i, hi, hn => by
    have h1 := h.2.2.2 r
    have ih := lp_dr_1 k M h r hr e n (31 * g + wI (M 3 (40 * r + i))) (i + 1) (by push_cast; omega) (by omega)
    rw [XL_X6_digestOnto_1_3, XB_X6_digestOnto_1_3, sp_sizeOf_1 h (by unfold iR; omega), if_pos (by omega), Int.toNat_natCast, ob]
    dsimp only
    rw [wI_of (x := (i : Int)) (by omega) (by omega), wI_of (x := M 2 r) (by omega) (by omega), if_pos (by omega), sp_get_1 h (by omega) (by unfold iR; omega), Int.toNat_natCast, if_pos (by omega), ob]
    dsimp only
    rw [show (40 * (r : Int) + (i : Int)).toNat = 40 * r + i by omega, show (i : Int) + 1 = ((i + 1 : Nat) : Int) from rfl, ih]; rfl
theorem lp_do_1 (k : Int → am_M → am_Rs) (M : am_M) (h : Sh1 M) : ∀ (e n : Nat) (g : Int) (r : Nat), r + e = 6 → e < n → XL_X6_digestOnto_1_1 k n g r M = k (dgR 40 (M 2) (M 3) r e g) M
  | 0, n + 1, g, r, hr, hn => by
    rw [XL_X6_digestOnto_1_1, XB_X6_digestOnto_1_1, h.1, wI_of (x := (r : Int)) (by omega) (by omega), show wI 6 = 6 from rfl, if_neg (by omega)]; rfl
  | e + 1, n + 1, g, r, hr, hn => by
    have h1 := h.2.2.2 r
    have ih := lp_do_1 k M h e n (dg (fun j => M 3 (40 * r + j)) 0 (M 2 r).toNat (31 * g + wI (M 2 r))) (r + 1) (by omega) (by omega)
    rw [XL_X6_digestOnto_1_1, XB_X6_digestOnto_1_1, h.1, wI_of (x := (r : Int)) (by omega) (by omega), show wI 6 = 6 from rfl, if_pos (by omega), sp_sizeOf_1 h (by unfold iR; omega), if_pos (by omega), Int.toNat_natCast, ob]
    dsimp only
    have := lp_dr_1 (XB_X6_digestOnto_1_5 (XL_X6_digestOnto_1_1 k n)) M h r (by omega) (M 2 r).toNat 1000 (31 * g + wI (M 2 r)) 0 (by omega) (by omega)
    rw [show ((0 : Nat) : Int) = 0 from rfl] at this
    rw [this, XB_X6_digestOnto_1_5, show (r : Int) + 1 = ((r + 1 : Nat) : Int) from rfl, ih]; rfl
theorem sp_do_1 {M : am_M} (h : Sh1 M) (g : Int) : X_X6_digestOnto_1 g M = some (dgR 40 (M 2) (M 3) 0 6 g, M) := by
  rw [X_X6_digestOnto_1, XB_X6_digestOnto_1_e]
  have := lp_do_1 XB_X6_digestOnto_1_6 M h 6 1000 g 0 (by omega) (by omega)
  rw [show ((0 : Nat) : Int) = 0 from rfl] at this
  rw [this]; rfl
theorem lp_dr_4 (k : Int → Int → am_M → am_Rs) (M : am_M) (h : Sh4 M) (r : Nat) (hr : r < 4) : ∀ (e n : Nat) (g : Int) (i : Nat), (i : Int) + e = max 0 (M 5 r) → e < n → XL_X6_digestOnto_4_3 k n g r i M = k (dg (fun j => M 6 (60 * r + j)) i e g) r M
  | 0, n + 1, g, i, hi, hn => by
    have h1 := h.2.2.2 r
    rw [XL_X6_digestOnto_4_3, XB_X6_digestOnto_4_3, sp_sizeOf_4 h (by unfold iR; omega), if_pos (by omega), Int.toNat_natCast, ob]
    dsimp only
    rw [wI_of (x := (i : Int)) (by omega) (by omega), wI_of (x := M 5 r) (by omega) (by omega), if_neg (by omega)]; rfl
  | e + 1, n + 1, g, i, hi, hn => by
    have h1 := h.2.2.2 r
    have ih := lp_dr_4 k M h r hr e n (31 * g + wI (M 6 (60 * r + i))) (i + 1) (by push_cast; omega) (by omega)
    rw [XL_X6_digestOnto_4_3, XB_X6_digestOnto_4_3, sp_sizeOf_4 h (by unfold iR; omega), if_pos (by omega), Int.toNat_natCast, ob]
    dsimp only
    rw [wI_of (x := (i : Int)) (by omega) (by omega), wI_of (x := M 5 r) (by omega) (by omega), if_pos (by omega), sp_get_4 h (by omega) (by unfold iR; omega), Int.toNat_natCast, if_pos (by omega), ob]
    dsimp only
    rw [show (60 * (r : Int) + (i : Int)).toNat = 60 * r + i by omega, show (i : Int) + 1 = ((i + 1 : Nat) : Int) from rfl, ih]; rfl
theorem lp_do_4 (k : Int → am_M → am_Rs) (M : am_M) (h : Sh4 M) : ∀ (e n : Nat) (g : Int) (r : Nat), r + e = 4 → e < n → XL_X6_digestOnto_4_1 k n g r M = k (dgR 60 (M 5) (M 6) r e g) M
  | 0, n + 1, g, r, hr, hn => by
    rw [XL_X6_digestOnto_4_1, XB_X6_digestOnto_4_1, h.1, wI_of (x := (r : Int)) (by omega) (by omega), show wI 4 = 4 from rfl, if_neg (by omega)]; rfl
  | e + 1, n + 1, g, r, hr, hn => by
    have h1 := h.2.2.2 r
    have ih := lp_do_4 k M h e n (dg (fun j => M 6 (60 * r + j)) 0 (M 5 r).toNat (31 * g + wI (M 5 r))) (r + 1) (by omega) (by omega)
    rw [XL_X6_digestOnto_4_1, XB_X6_digestOnto_4_1, h.1, wI_of (x := (r : Int)) (by omega) (by omega), show wI 4 = 4 from rfl, if_pos (by omega), sp_sizeOf_4 h (by unfold iR; omega), if_pos (by omega), Int.toNat_natCast, ob]
    dsimp only
    have := lp_dr_4 (XB_X6_digestOnto_4_5 (XL_X6_digestOnto_4_1 k n)) M h r (by omega) (M 5 r).toNat 1000 (31 * g + wI (M 5 r)) 0 (by omega) (by omega)
    rw [show ((0 : Nat) : Int) = 0 from rfl] at this
    rw [this, XB_X6_digestOnto_4_5, show (r : Int) + 1 = ((r + 1 : Nat) : Int) from rfl, ih]; rfl
theorem sp_do_4 {M : am_M} (h : Sh4 M) (g : Int) : X_X6_digestOnto_4 g M = some (dgR 60 (M 5) (M 6) 0 4 g, M) := by
  rw [X_X6_digestOnto_4, XB_X6_digestOnto_4_e]
  have := lp_do_4 XB_X6_digestOnto_4_6 M h 4 1000 g 0 (by omega) (by omega)
  rw [show ((0 : Nat) : Int) = 0 from rfl] at this
  rw [this]; rfl
theorem dgR_c {w n : Nat} {a b b' : Nat → Int} : ∀ (d r : Nat) (h : Int), (∀ q i : Nat, r ≤ q → q < r + d → (i : Int) < a q → b' (w * q + i) = b (w * q + i)) → dgR w a b' r d h = dgR w a b r d h
  | 0, r, h, _ => rfl
  | d + 1, r, h, hf => by
    simp only [dgR]
    rw [dg_c (f := fun j => b' (w * r + j)) (g := fun j => b (w * r + j)) _ _ _ (fun j h1 h2 => hf r j (by omega) (by omega) (by omega)), dgR_c (n := n) d (r + 1) _ (fun q i h1 h2 h3 => hf q i (by omega) (by omega) h3)]
theorem lp_d12m (k : Int → Int → am_M → am_Rs) (M : am_M) (h : ∀ r, -1 ≤ M 57 r ∧ M 57 r ≤ 40) (r : Nat) (hr : r < 6) : ∀ (e n : Nat) (g : Int) (i : Nat), (i : Int) + e = max 0 (M 57 r) → e < n → XL_X9_digest_53_12 k n g r i M = k (dg (fun j => M 58 (40 * r + j)) i e g) r M
  | 0, n + 1, g, i, hi, hn => by
    have h1 := h r
    rw [XL_X9_digest_53_12, XB_X9_digest_53_12, wI_of (x := (r : Int)) (by omega) (by omega), if_pos (by omega), Int.toNat_natCast, wI_of (x := (i : Int)) (by omega) (by omega), wI_of (x := M 57 r) (by omega) (by omega), if_neg (by omega)]; rfl
  | e + 1, n + 1, g, i, hi, hn => by
    have h1 := h r
    have ih := lp_d12m k M h r hr e n (31 * g + wI (M 58 (40 * r + i))) (i + 1) (by push_cast; omega) (by omega)
    rw [XL_X9_digest_53_12, XB_X9_digest_53_12, wI_of (x := (r : Int)) (by omega) (by omega), if_pos (by omega), Int.toNat_natCast, wI_of (x := (i : Int)) (by omega) (by omega), wI_of (x := M 57 r) (by omega) (by omega), if_pos (by omega), wI_of (x := 40 * (r : Int) + i) (by omega) (by omega), if_pos (by omega), show (40 * (r : Int) + (i : Int)).toNat = 40 * r + i by omega, show (i : Int) + 1 = ((i + 1 : Nat) : Int) from rfl, ih]; rfl
theorem lp_d10m (k : Int → am_M → am_Rs) (M : am_M) (h : ∀ r, -1 ≤ M 57 r ∧ M 57 r ≤ 40) : ∀ (e n : Nat) (g : Int) (r : Nat), r + e = 6 → e < n → XL_X9_digest_53_10 k n g r M = k (dgR 40 (M 57) (M 58) r e g) M
  | 0, n + 1, g, r, hr, hn => by
    rw [XL_X9_digest_53_10, XB_X9_digest_53_10, wI_of (x := (r : Int)) (by omega) (by omega), if_neg (by omega)]; rfl
  | e + 1, n + 1, g, r, hr, hn => by
    have h1 := h r
    have ih := lp_d10m k M h e n (dg (fun j => M 58 (40 * r + j)) 0 (M 57 r).toNat (31 * g + wI (M 57 r))) (r + 1) (by omega) (by omega)
    rw [XL_X9_digest_53_10, XB_X9_digest_53_10, wI_of (x := (r : Int)) (by omega) (by omega), if_pos (by omega), if_pos (by omega), Int.toNat_natCast]
    have := lp_d12m (XB_X9_digest_53_14 (XL_X9_digest_53_10 k n)) M h r (by omega) (M 57 r).toNat 1000 (31 * g + wI (M 57 r)) 0 (by omega) (by omega)
    rw [show ((0 : Nat) : Int) = 0 from rfl] at this
    rw [this, XB_X9_digest_53_14, show (r : Int) + 1 = ((r + 1 : Nat) : Int) from rfl, ih]; rfl
theorem lp_d18m (k : Int → Int → am_M → am_Rs) (M : am_M) (h : ∀ r, -1 ≤ M 59 r ∧ M 59 r ≤ 60) (r : Nat) (hr : r < 4) : ∀ (e n : Nat) (g : Int) (i : Nat), (i : Int) + e = max 0 (M 59 r) → e < n → XL_X9_digest_53_18 k n g r i M = k (dg (fun j => M 60 (60 * r + j)) i e g) r M
  | 0, n + 1, g, i, hi, hn => by
    have h1 := h r
    rw [XL_X9_digest_53_18, XB_X9_digest_53_18, wI_of (x := (r : Int)) (by omega) (by omega), if_pos (by omega), Int.toNat_natCast, wI_of (x := (i : Int)) (by omega) (by omega), wI_of (x := M 59 r) (by omega) (by omega), if_neg (by omega)]; rfl
  | e + 1, n + 1, g, i, hi, hn => by
    have h1 := h r
    have ih := lp_d18m k M h r hr e n (31 * g + wI (M 60 (60 * r + i))) (i + 1) (by push_cast; omega) (by omega)
    rw [XL_X9_digest_53_18, XB_X9_digest_53_18, wI_of (x := (r : Int)) (by omega) (by omega), if_pos (by omega), Int.toNat_natCast, wI_of (x := (i : Int)) (by omega) (by omega), wI_of (x := M 59 r) (by omega) (by omega), if_pos (by omega), wI_of (x := 60 * (r : Int) + i) (by omega) (by omega), if_pos (by omega), show (60 * (r : Int) + (i : Int)).toNat = 60 * r + i by omega, show (i : Int) + 1 = ((i + 1 : Nat) : Int) from rfl, ih]; rfl
theorem lp_d16m (k : Int → am_M → am_Rs) (M : am_M) (h : ∀ r, -1 ≤ M 59 r ∧ M 59 r ≤ 60) : ∀ (e n : Nat) (g : Int) (r : Nat), r + e = 4 → e < n → XL_X9_digest_53_16 k n g r M = k (dgR 60 (M 59) (M 60) r e g) M
  | 0, n + 1, g, r, hr, hn => by
    rw [XL_X9_digest_53_16, XB_X9_digest_53_16, wI_of (x := (r : Int)) (by omega) (by omega), if_neg (by omega)]; rfl
  | e + 1, n + 1, g, r, hr, hn => by
    have h1 := h r
    have ih := lp_d16m k M h e n (dg (fun j => M 60 (60 * r + j)) 0 (M 59 r).toNat (31 * g + wI (M 59 r))) (r + 1) (by omega) (by omega)
    rw [XL_X9_digest_53_16, XB_X9_digest_53_16, wI_of (x := (r : Int)) (by omega) (by omega), if_pos (by omega), if_pos (by omega), Int.toNat_natCast]
    have := lp_d18m (XB_X9_digest_53_20 (XL_X9_digest_53_16 k n)) M h r (by omega) (M 59 r).toNat 1000 (31 * g + wI (M 59 r)) 0 (by omega) (by omega)
    rw [show ((0 : Nat) : Int) = 0 from rfl] at this
    rw [this, XB_X9_digest_53_20, show (r : Int) + 1 = ((r + 1 : Nat) : Int) from rfl, ih]; rfl
noncomputable def dgA (M : am_M) : Int := dg (M 35) 0 3 (dg (fcs M) 0 (6 * (M 11 0).toNat) (31 * dg (cnt M) 0 9 17 + wI (M 14 1)))
theorem sp_digest_c {M : am_M} (I : Inv M) : X_X8_digest_0 M = some (dgR 60 (M 5) (M 6) 0 4 (dgR 40 (M 2) (M 3) 0 6 (dgA M)), M) := by
  have hs : 0 ≤ M 11 0 ∧ M 11 0 ≤ 12 := ⟨I.g11.1, I.g11.2.1⟩
  rw [X_X8_digest_0, XB_X8_digest_0_e]
  have a1 := lp_d1c (XB_X8_digest_0_3 (XL_X8_digest_0_4 (XB_X8_digest_0_9 (XL_X8_digest_0_10 (XB_X8_digest_0_12) 1000)) 1000)) M I 9 1000 17 0 (by omega) (by omega)
  rw [show ((0 : Nat) : Int) = 0 from rfl] at a1
  rw [a1, XB_X8_digest_0_3]
  have a2 := lp_d4c (XB_X8_digest_0_9 (XL_X8_digest_0_10 (XB_X8_digest_0_12) 1000)) M I (M 11 0).toNat 1000 (31 * dg (cnt M) 0 9 17 + wI (M 14 1)) 0 (by omega) (by omega)
  rw [show ((0 : Nat) : Int) = 0 from rfl, Nat.mul_zero] at a2
  rw [a2, XB_X8_digest_0_9]
  have a3 := lp_d10c XB_X8_digest_0_12 M 3 1000 (dg (fcs M) 0 (6 * (M 11 0).toNat) (31 * dg (cnt M) 0 9 17 + wI (M 14 1))) 0 (by omega) (by omega)
  rw [show ((0 : Nat) : Int) = 0 from rfl] at a3
  rw [a3, XB_X8_digest_0_12, sp_do_1 I.sh1, ob]
  dsimp only
  rw [sp_do_4 I.sh4, ob]
  rfl
theorem sp_digest_m {M : am_M} (I : Inv M) : X_X9_digest_53 M = some (dgR 60 (M 59) (M 60) 0 4 (dgR 40 (M 57) (M 58) 0 6 (dgA M)), M) := by
  have hs : 0 ≤ M 11 0 ∧ M 11 0 ≤ 12 := ⟨I.g11.1, I.g11.2.1⟩
  have o3 : M 54 1 = M 14 1 := I.2.2.2.2.1.1.2.2.1
  obtain ⟨e57, h57, -⟩ := I.2.1
  obtain ⟨e59, h59, -⟩ := I.2.2.1
  rw [X_X9_digest_53, XB_X9_digest_53_e]
  have a1 := lp_d1m (XB_X9_digest_53_3 (XL_X9_digest_53_4 (XB_X9_digest_53_6 (XL_X9_digest_53_7 (XB_X9_digest_53_9 (XL_X9_digest_53_10 (XB_X9_digest_53_15 (XL_X9_digest_53_16 (XB_X9_digest_53_21) 1000)) 1000)) 1000)) 1000)) M I 9 1000 17 0 (by omega) (by omega)
  rw [show ((0 : Nat) : Int) = 0 from rfl] at a1
  rw [a1, XB_X9_digest_53_3, o3]
  have a2 := lp_d4m (XB_X9_digest_53_6 (XL_X9_digest_53_7 (XB_X9_digest_53_9 (XL_X9_digest_53_10 (XB_X9_digest_53_15 (XL_X9_digest_53_16 (XB_X9_digest_53_21) 1000)) 1000)) 1000)) M I (6 * (M 11 0).toNat) 1000 (31 * dg (cnt M) 0 9 17 + wI (M 14 1)) 0 (by omega) (by omega)
  rw [show ((0 : Nat) : Int) = 0 from rfl] at a2
  rw [a2, XB_X9_digest_53_6]
  have a3 := lp_d7m (XB_X9_digest_53_9 (XL_X9_digest_53_10 (XB_X9_digest_53_15 (XL_X9_digest_53_16 (XB_X9_digest_53_21) 1000)) 1000)) M I 3 1000 (dg (fcs M) 0 (6 * (M 11 0).toNat) (31 * dg (cnt M) 0 9 17 + wI (M 14 1))) 0 (by omega) (by omega)
  rw [show ((0 : Nat) : Int) + 1 = 1 from rfl] at a3
  rw [a3, XB_X9_digest_53_9]
  have a4 := lp_d10m (XB_X9_digest_53_15 (XL_X9_digest_53_16 (XB_X9_digest_53_21) 1000)) M (by rw [e57]; exact h57) 6 1000 (dgA M) 0 (by omega) (by omega)
  rw [show ((0 : Nat) : Int) = 0 from rfl] at a4
  unfold dgA at a4 ⊢
  rw [a4, XB_X9_digest_53_15]
  have a5 := lp_d16m XB_X9_digest_53_21 M (by rw [e59]; exact h59) 4 1000 (dgR 40 (M 57) (M 58) 0 6 (dgA M)) 0 (by omega) (by omega)
  rw [show ((0 : Nat) : Int) = 0 from rfl] at a5
  unfold dgA at a5
  rw [a5]; rfl
theorem eq_digest {M : am_M} (I : Inv M) : StepL X_X8_digest_0 X_X9_digest_53 M := by
  obtain ⟨e57, -, -, h58⟩ := I.2.1
  obtain ⟨e59, -, -, h60⟩ := I.2.2.1
  refine ⟨_, _, M, M, sp_digest_c I, sp_digest_m I, ?_, I⟩
  rw [e57, e59, dgR_c (n := 0) (b' := M 58) (b := M 3) 6 0 _ (fun q i h1 h2 h3 => h58 q i (by omega) h3), dgR_c (n := 0) (b' := M 60) (b := M 6) 4 0 _ (fun q i h1 h2 h3 => h60 q i (by omega) h3)]
