/-! A day of the class. -/
theorem lp_collect (k : am_M → am_Rs) (N : am_M) (hs : 0 ≤ N 11 0 ∧ N 11 0 ≤ 12) (t : Nat) (ht : t < 4) (htd : Unit → (wI (N 14 0)).tdiv 10 = (t : Int)) (F0 F1 G : Nat → Int)
    (hP0 : ∀ (M : am_M) (i : Nat), M 11 = N 11 → M 12 = N 12 → M 13 = N 13 → (i : Int) < N 11 0 → X_X2_dueTo_11 0 i (N 14 1) (N 14 2) M = some (F0 i, M))
    (hP1 : ∀ (M : am_M) (i : Nat), M 11 = N 11 → M 12 = N 12 → M 13 = N 13 → (i : Int) < N 11 0 → X_X2_dueTo_11 1 i (N 14 1) (N 14 3) M = some (F1 i, M))
    (g0 : ∀ q : Nat, (q : Int) < N 11 0 → G ((t * 12 + q) * 2) = F0 q) (g1 : ∀ q : Nat, (q : Int) < N 11 0 → G ((t * 12 + q) * 2 + 1) = F1 q) :
    ∀ (e n : Nat) (M : am_M) (i : Nat), M 11 = N 11 → M 12 = N 12 → M 13 = N 13 → M 14 = N 14 → (i : Int) + e = N 11 0 → e < n →
      XL_X1_collect_14_11_1 k n i M = k (am_row M 18 fun j => if (t * 12 + i) * 2 ≤ j ∧ (j : Int) < (t * 12 + N 11 0) * 2 then G j else M 18 j) := by
  intro e
  induction e with
  | zero =>
    intro n M i m1 m2 m3 m4 hi hn
    obtain ⟨n, rfl⟩ : ∃ m, n = m + 1 := ⟨n - 1, by omega⟩
    rw [XL_X1_collect_14_11_1, XB_X1_collect_14_11_1, m1, wI_of (x := (i : Int)) (by omega) (by omega), wI_of (x := N 11 0) (by omega) (by omega), if_neg (by omega)]
    rw [show (fun j : Nat => if (t * 12 + i) * 2 ≤ j ∧ (j : Int) < (t * 12 + N 11 0) * 2 then G j else M 18 j) = M 18 from funext fun j => if_neg (by omega), row_self]
  | succ e ih =>
    intro n M i m1 m2 m3 m4 hi hn
    obtain ⟨n, rfl⟩ : ∃ m, n = m + 1 := ⟨n - 1, by omega⟩
    have x0 := hP0 M i m1 m2 m3 (by omega)
    obtain ⟨M1, hM1⟩ : ∃ M1, M1 = am_up M 18 ((t * 12 + i) * 2) (F0 i) := ⟨_, rfl⟩
    have k1 : M1 11 = N 11 := by rw [hM1, up_a (by decide), m1]
    have k2 : M1 12 = N 12 := by rw [hM1, up_a (by decide), m2]
    have k3 : M1 13 = N 13 := by rw [hM1, up_a (by decide), m3]
    have k4 : M1 14 = N 14 := by rw [hM1, up_a (by decide), m4]
    have x1 := hP1 M1 i k1 k2 k3 (by omega)
    obtain ⟨M2, hM2⟩ : ∃ M2, M2 = am_up M1 18 ((t * 12 + i) * 2 + 1) (F1 i) := ⟨_, rfl⟩
    have l1 : M2 11 = N 11 := by rw [hM2, up_a (by decide), k1]
    have l2 : M2 12 = N 12 := by rw [hM2, up_a (by decide), k2]
    have l3 : M2 13 = N 13 := by rw [hM2, up_a (by decide), k3]
    have l4 : M2 14 = N 14 := by rw [hM2, up_a (by decide), k4]
    have e0 : ∀ _ : Unit, wI (((t : Int) * 12 + i) * 2 + 0) = (((t * 12 + i) * 2 : Nat) : Int) := fun _ => by rw [wI_of (by omega) (by omega)]; push_cast; omega
    have e1 : ∀ _ : Unit, wI (((t : Int) * 12 + i) * 2 + (0 + 1)) = (((t * 12 + i) * 2 + 1 : Nat) : Int) := fun _ => by rw [wI_of (by omega) (by omega)]; push_cast; omega
    have hin : XL_X1_collect_14_11_3 (XB_X1_collect_14_11_8 (XL_X1_collect_14_11_1 k n)) 1000 i 0 M = XL_X1_collect_14_11_1 k n ((i + 1 : Nat) : Int) M2 := by
      rw [XL_X1_collect_14_11_3, XB_X1_collect_14_11_3, if_pos (show wI 0 < 2 by decide), m4, htd (), X_X1_slotOf, ob]
      dsimp only
      rw [e0 (), if_neg (by omega), if_pos (by omega), X_X1_rateOf_14, if_pos wI_0, ob]
      dsimp only
      rw [m4, x0, ob]
      dsimp only
      rw [if_pos (by omega), Int.toNat_natCast, ← hM1]
      rw [XL_X1_collect_14_11_3, XB_X1_collect_14_11_3, if_pos (show wI (0 + 1) < 2 by decide), k4, htd (), X_X1_slotOf, ob]
      dsimp only
      rw [e1 (), if_neg (by omega), if_pos (by omega), X_X1_rateOf_14, if_neg (show ¬ wI (0 + 1) = 0 by decide), ob]
      dsimp only
      rw [k4, show X_X2_dueTo_11 (0 + 1) (i : Int) (N 14 1) (N 14 3) M1 = some (F1 i, M1) from x1, ob]
      dsimp only
      rw [if_pos (by omega), Int.toNat_natCast, ← hM2]
      rw [XL_X1_collect_14_11_3, XB_X1_collect_14_11_3, if_neg (show ¬ wI (0 + 1 + 1) < 2 by decide), XB_X1_collect_14_11_8, Int.natCast_succ]
    rw [XL_X1_collect_14_11_1, XB_X1_collect_14_11_1, m1, wI_of (x := (i : Int)) (by omega) (by omega), wI_of (x := N 11 0) (by omega) (by omega), if_pos (by omega), hin, ih n M2 (i + 1) l1 l2 l3 l4 (by push_cast; omega) (by omega), hM2, hM1, up_row, up_row, row_row, row_row]
    refine congrArg k (congrArg (am_row M 18) (funext fun j => ?_))
    simp only [row_s]
    have q0 := g0 i (by omega)
    have q1 := g1 i (by omega)
    by_cases c0 : j = (t * 12 + i) * 2
    · subst c0
      rw [if_neg (by omega), if_neg (by omega), if_pos rfl, if_pos (by omega), q0]
    · by_cases c1 : j = (t * 12 + i) * 2 + 1
      · subst c1
        rw [if_neg (by omega), if_pos rfl, if_pos (by omega), q1]
      · rw [if_neg c1, if_neg c0]
        by_cases c2 : (t * 12 + (i + 1)) * 2 ≤ j ∧ (j : Int) < (t * 12 + N 11 0) * 2
        · rw [if_pos c2, if_pos (by omega)]
        · rw [if_neg c2, if_neg (by omega)]
theorem sp_isTaxDay (d : Nat) (hd : d < 1000) (M : am_M) : X_X1_isTaxDay d M = some (b2 (d < 40 ∧ d % 10 = 9), M) := by
  have ht : ∀ _ : Unit, wI ((d : Int).tmod 10) = ((d % 10 : Nat) : Int) := fun _ => by rw [Int.tmod_eq_emod_of_nonneg (by omega), wI_of (by omega) (by omega)]; omega
  simp only [X_X1_isTaxDay, wI_of (x := (d : Int)) (by omega) (by omega), ht ()]
  rw [if_neg (by omega)]
  by_cases c1 : d < 40
  · rw [if_pos (by omega)]
    by_cases c2 : d % 10 = 9
    · rw [if_pos (by omega), b2_t ⟨c1, c2⟩]
    · rw [if_neg (by omega), b2_f (by omega)]
  · rw [if_neg (by omega), b2_f (by omega)]
theorem sp_collect {M : am_M} (hG : Gd11 M) {d : Nat} (hd : M 14 0 = d) (hd4 : d < 40) (hb : 0 ≤ M 14 1 ∧ M 14 1 ≤ M 11 0) (h2 : 0 ≤ M 14 2 ∧ M 14 2 ≤ 9) (h3 : 0 ≤ M 14 3 ∧ M 14 3 ≤ 9) (G : Nat → Int)
    (g0 : ∀ q : Nat, (q : Int) < M 11 0 → G ((d / 10 * 12 + q) * 2) = due (M 12) (M 13) 0 q (M 14 1) (M 14 2)) (g1 : ∀ q : Nat, (q : Int) < M 11 0 → G ((d / 10 * 12 + q) * 2 + 1) = due (M 12) (M 13) 1 q (M 14 1) (M 14 3)) :
    X_X1_collect_14_11 M = some (0, am_row M 18 fun j => if d / 10 * 24 ≤ j ∧ (j : Int) < ((d / 10 * 24 : Nat) : Int) + M 11 0 * 2 then G j else M 18 j) := by
  have hs : 0 ≤ M 11 0 ∧ M 11 0 ≤ 12 := ⟨hG.1, hG.2.1⟩
  rw [X_X1_collect_14_11, XB_X1_collect_14_11_e]
  have := lp_collect XB_X1_collect_14_11_9 M hs (d / 10) (by omega) (fun _ => by rw [hd, wI_of (by omega) (by omega), Int.tdiv_eq_ediv_of_nonneg (by omega)]; omega) (fun q => due (M 12) (M 13) 0 q (M 14 1) (M 14 2)) (fun q => due (M 12) (M 13) 1 q (M 14 1) (M 14 3)) G
    (fun N i n1 n2 n3 hi => by
      have gN : Gd11 N := by unfold Gd11; rw [n1, n2, n3]; exact hG
      rw [sp_dueTo_11 gN (by decide) (by rw [n1]; omega) (by omega) h2, n2, n3])
    (fun N i n1 n2 n3 hi => by
      have gN : Gd11 N := by unfold Gd11; rw [n1, n2, n3]; exact hG
      rw [sp_dueTo_11 gN (by decide) (by rw [n1]; omega) (by omega) h3, n2, n3]) g0 g1 (M 11 0).toNat 1000 M 0 rfl rfl rfl rfl (by omega) (by omega)
  rw [show ((0 : Nat) : Int) = 0 from rfl] at this
  rw [this, XB_X1_collect_14_11_9]
  congr 3
  funext j
  clear this g0 g1
  by_cases c : d / 10 * 24 ≤ j ∧ (j : Int) < ((d / 10 * 24 : Nat) : Int) + M 11 0 * 2
  · rw [if_pos c, if_pos (by omega)]
  · rw [if_neg c, if_neg (by omega)]
theorem sp_pass {M : am_M} (hG : Gd11 M) {d : Nat} (hd : M 14 0 = d) (hd4 : d < 40) (hb : 0 ≤ M 14 1 ∧ M 14 1 ≤ M 11 0) (h2 : 0 ≤ M 14 2 ∧ M 14 2 ≤ 9) (h3 : 0 ≤ M 14 3 ∧ M 14 3 ≤ 9) {x y b' : Int} (hx : 0 ≤ x ∧ x ≤ 3) (hy : 0 ≤ y ∧ y ≤ 3) (hb' : aft (M 11 0) (M 12) (M 14 1) d x y = b') (G : Nat → Int)
    (g0 : ∀ q : Nat, (q : Int) < M 11 0 → G ((d / 10 * 12 + q) * 2) = due (M 12) (M 13) 0 q b' (M 14 2)) (g1 : ∀ q : Nat, (q : Int) < M 11 0 → G ((d / 10 * 12 + q) * 2 + 1) = due (M 12) (M 13) 1 q b' (M 14 3)) :
    ∃ M', X_X1_pass_14_11 x y M = some (0, M') ∧ (∀ c, c < 14 ∨ 18 < c → M' c = M c) ∧ (∀ j, M' 14 j = if j = 0 then (d : Int) + 1 else if j = 1 then b' else M 14 j) ∧ (∀ j, M' 15 j = if j = d then x else M 15 j) ∧ (∀ j, M' 16 j = if j = d then y else M 16 j) ∧ (∀ j, M' 17 j = if j = d + 1 then b' else M 17 j) ∧ (∀ j, M' 18 j = if d % 10 = 9 ∧ d / 10 * 24 ≤ j ∧ (j : Int) < ((d / 10 * 24 : Nat) : Int) + M 11 0 * 2 then G j else M 18 j) := by
  have hbr : 0 ≤ b' ∧ b' ≤ M 11 0 := by rw [← hb']; exact aft_r hb
  obtain ⟨M1, hM1⟩ : ∃ M1, M1 = am_up (am_up M 15 d x) 16 d y := ⟨_, rfl⟩
  have f1 : ∀ c, c ≠ 15 → c ≠ 16 → M1 c = M c := fun c q1 q2 => by rw [hM1, up_a q2, up_a q1]
  have gN : Gd11 M1 := by unfold Gd11; rw [f1 11 (by decide) (by decide), f1 12 (by decide) (by decide), f1 13 (by decide) (by decide)]; exact hG
  have s1 : X_X2_borderAfter_11 (M 14 1) d x y M1 = some (b', M1) := by
    rw [sp_borderAfter_11 gN (by rw [f1 11 (by decide) (by decide)]; exact hb) (by omega) hx hy, f1 11 (by decide) (by decide), f1 12 (by decide) (by decide), hb']
  obtain ⟨M2, hM2⟩ : ∃ M2, M2 = am_up M1 14 1 b' := ⟨_, rfl⟩
  have f2 : ∀ c, c ≠ 14 → M2 c = M1 c := fun c q => by rw [hM2, up_a q]
  have f2d : M2 14 0 = d := by rw [hM2, up_j (by decide), f1 14 (by decide) (by decide), hd]
  have f2b : M2 14 1 = b' := by rw [hM2, up_s]
  have f2j : ∀ j, j ≠ 1 → M2 14 j = M 14 j := fun j q => by rw [hM2, up_j q, f1 14 (by decide) (by decide)]
  -- behind the taxes
  obtain ⟨M3, h31, h32⟩ : ∃ M3, (X_X1_isTaxDay d M2).bind (fun z2 => if wI z2.1 = 0 then some z2.2 else (X_X1_collect_14_11 z2.2).bind fun z3 => some z3.2) = some M3 ∧ M3 = am_row M2 18 fun j => if d % 10 = 9 ∧ d / 10 * 24 ≤ j ∧ (j : Int) < ((d / 10 * 24 : Nat) : Int) + M 11 0 * 2 then G j else M 18 j := by
    refine ⟨_, ?_, rfl⟩
    rw [sp_isTaxDay d (by omega), ob]
    dsimp only
    by_cases c : d % 10 = 9
    · have gN2 : Gd11 M2 := by unfold Gd11; rw [f2 11 (by decide), f2 12 (by decide), f2 13 (by decide)]; exact gN
      rw [b2_t ⟨hd4, c⟩, if_neg (by decide), sp_collect gN2 f2d hd4 (by rw [f2b, f2 11 (by decide), f1 11 (by decide) (by decide)]; exact hbr) (by rw [f2j 2 (by decide)]; exact h2) (by rw [f2j 3 (by decide)]; exact h3) G
        (fun q hq => by rw [f2 11 (by decide), f1 11 (by decide) (by decide)] at hq; rw [g0 q hq, f2b, f2j 2 (by decide), f2 12 (by decide), f2 13 (by decide), f1 12 (by decide) (by decide), f1 13 (by decide) (by decide)])
        (fun q hq => by rw [f2 11 (by decide), f1 11 (by decide) (by decide)] at hq; rw [g1 q hq, f2b, f2j 3 (by decide), f2 12 (by decide), f2 13 (by decide), f1 12 (by decide) (by decide), f1 13 (by decide) (by decide)]), ob]
      dsimp only
      rw [f2 11 (by decide), f1 11 (by decide) (by decide), f2 18 (by decide), f1 18 (by decide) (by decide)]
      congr 2
      funext j
      clear g0 g1 hb'
      by_cases c2 : d / 10 * 24 ≤ j ∧ (j : Int) < ((d / 10 * 24 : Nat) : Int) + M 11 0 * 2
      · rw [if_pos c2, if_pos ⟨c, c2⟩]
      · rw [if_neg c2, if_neg (fun q => c2 q.2)]
    · rw [b2_f (fun q => c q.2), if_pos (by decide)]
      rw [show (fun j : Nat => if d % 10 = 9 ∧ d / 10 * 24 ≤ j ∧ (j : Int) < ((d / 10 * 24 : Nat) : Int) + M 11 0 * 2 then G j else M 18 j) = M2 18 from funext fun j => by rw [if_neg (fun q => c q.1), f2 18 (by decide), f1 18 (by decide) (by decide)], row_self]
  have f3 : ∀ c, c ≠ 18 → M3 c = M2 c := fun c q => by rw [h32, row_a q]
  have e1 : ∀ _ : Unit, wI ((d : Int) + 1) = ((d + 1 : Nat) : Int) := fun _ => by rw [wI_of (by omega) (by omega)]; rfl
  refine ⟨am_up (am_up M3 14 0 ((d : Int) + 1)) 17 (d + 1) b', ?_, fun c hc => ?_, fun j => ?_, fun j => ?_, fun j => ?_, fun j => ?_, fun j => ?_⟩
  · have u1 : (am_up M 15 d x) 14 0 = d := by rw [up_a (by decide), hd]
    have u3 : M1 14 1 = M 14 1 := by rw [f1 14 (by decide) (by decide)]
    have u4 : M1 14 0 = d := by rw [f1 14 (by decide) (by decide), hd]
    have u5 : M3 14 0 = d := by rw [f3 14 (by decide), f2d]
    have u6 : M3 14 1 = b' := by rw [f3 14 (by decide), f2b]
    have u7 : (am_up M3 14 0 ((d : Int) + 1)) 14 0 = (d : Int) + 1 := up_s
    have u8 : (am_up M3 14 0 ((d : Int) + 1)) 14 1 = b' := by rw [up_j (by decide), u6]
    rw [X_X1_pass_14_11]
    simp only [hd, wI_of (x := (d : Int)) (by omega) (by omega), Int.toNat_natCast, u1, ← hM1, u3, u4, s1, ob, ← hM2, f2d]
    rw [if_neg (by omega), if_pos (by omega), if_pos (by omega), if_pos (by omega)]
    revert h31
    rw [sp_isTaxDay d (by omega), ob, ob]
    dsimp only
    by_cases c : wI (b2 (d < 40 ∧ d % 10 = 9)) = 0
    · rw [if_pos c, if_pos c]
      intro h
      have h := Option.some.inj h
      simp only [h, u5, u7, u8, e1 (), Int.toNat_natCast]
      rw [if_pos (by omega)]
    · rw [if_neg c, if_neg c]
      cases hq : X_X1_collect_14_11 M2 with
      | none => intro h; cases h
      | some z =>
        rw [ob, ob]
        intro h
        have h := Option.some.inj h
        simp only [h, u5, u7, u8, e1 (), Int.toNat_natCast]
        rw [if_pos (by omega)]
  · rw [up_a (by omega), up_a (by omega), f3 c (by omega), f2 c (by omega), f1 c (by omega) (by omega)]
  · rw [up_a (by decide)]
    by_cases c0 : j = 0
    · subst c0; rw [up_s, if_pos rfl]
    · rw [up_j c0, if_neg c0, f3 14 (by decide)]
      by_cases c1 : j = 1
      · subst c1; rw [f2b, if_pos rfl]
      · rw [if_neg c1, f2j j c1]
  · rw [up_a (by decide), up_a (by decide), f3 15 (by decide), f2 15 (by decide), hM1, up_a (by decide)]
    by_cases c0 : j = d
    · subst c0; rw [up_s, if_pos rfl]
    · rw [up_j c0, if_neg c0]
  · rw [up_a (by decide), up_a (by decide), f3 16 (by decide), f2 16 (by decide), hM1]
    by_cases c0 : j = d
    · subst c0; rw [up_s, if_pos rfl]
    · rw [up_j c0, if_neg c0, up_a (by decide)]
  · by_cases c0 : j = d + 1
    · subst c0; rw [up_s, if_pos rfl]
    · rw [up_j c0, if_neg c0, up_a (by decide), f3 17 (by decide), f2 17 (by decide), f1 17 (by decide) (by decide)]
  · rw [up_a (by decide), up_a (by decide), h32, row_s]
