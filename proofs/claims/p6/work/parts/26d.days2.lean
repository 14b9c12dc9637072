/-! Days by lots; lands kept, gone on from; days undone, where the border had lain. -/
noncomputable def lt_ (l : Int) : Int := (48271 * l) % 2147483647
theorem lt_r (l : Int) : 0 ≤ lt_ l ∧ lt_ l < 2147483647 := by unfold lt_; omega
theorem lt_c {l : Int} (h : 0 ≤ l ∧ l < 2147483647) : (wL (48271 * l)).tmod 2147483647 = lt_ l := by
  rw [wL_of (by omega) (by omega), Int.tmod_eq_emod_of_nonneg (by omega)]; rfl
theorem lt_m {l : Int} (h : 0 ≤ l ∧ l < 2147483647) : (wL (l * 48271)).tmod 2147483647 = lt_ l := by
  rw [Int.mul_comm, lt_c h]
theorem lt_x {l : Int} (h : 0 ≤ l ∧ l < 2147483647) : (wL l).tmod 4 = l % 4 := by
  rw [wL_of (by omega) (by omega), Int.tmod_eq_emod_of_nonneg (by omega)]
theorem lt_y {l : Int} (h : 0 ≤ l ∧ l < 2147483647) : (wL ((wL l).tdiv 16)).tmod 4 = l / 16 % 4 := by
  rw [wL_of (x := l) (by omega) (by omega), Int.tdiv_eq_ediv_of_nonneg (by omega), wL_of (by omega) (by omega), Int.tmod_eq_emod_of_nonneg (by omega)]
noncomputable def lotsC : Nat → Int → am_M → am_M
  | 0, _, C => C
  | e + 1, l, C => lotsC e (lt_ l) (dayC (lt_ l % 4) (lt_ l / 16 % 4) C)
theorem lotsC_a {c : Nat} (h : c < 14 ∨ 18 < c) : ∀ (e : Nat) (l : Int) (C : am_M), lotsC e l C c = C c
  | 0, _, _ => rfl
  | e + 1, l, C => by rw [lotsC, lotsC_a h e, dayC_a h]
theorem lp_lotsC (k : am_M → am_Rs) : ∀ (e n i : Nat) (v l : Int) (C : am_M), CB C → (0 ≤ l ∧ l < 2147483647) → C 14 0 + e ≤ 40 → v = (i : Int) + e → i + e ≤ 100 → e < n → XL_X8_lots_0_10 k n v l i C = k (lotsC e l C) := by
  intro e
  induction e with
  | zero =>
    intro n i v l C hC hl hd hv hi hn
    obtain ⟨n, rfl⟩ : ∃ m, n = m + 1 := ⟨n - 1, by omega⟩
    rw [XL_X8_lots_0_10, XB_X8_lots_0_10, wI_of (x := (i : Int)) (by omega) (by omega), wI_of (x := v) (by omega) (by omega), if_neg (by omega)]; rfl
  | succ e ih =>
    intro n i v l C hC hl hd hv hi hn
    obtain ⟨n, rfl⟩ : ∃ m, n = m + 1 := ⟨n - 1, by omega⟩
    have h1 := lt_r l
    have h2 := hC.2.1
    have hx : 0 ≤ lt_ l % 4 ∧ lt_ l % 4 ≤ 3 := by omega
    have hy : 0 ≤ lt_ l / 16 % 4 ∧ lt_ l / 16 % 4 ≤ 3 := by omega
    have ih := ih n (i + 1) v (lt_ l) (dayC (lt_ l % 4) (lt_ l / 16 % 4) C) (hC.day _ _) h1 (by show C 14 0 + 1 + e ≤ 40; omega) (by omega) (by omega) (by omega)
    rw [XL_X8_lots_0_10, XB_X8_lots_0_10, wI_of (x := (i : Int)) (by omega) (by omega), wI_of (x := v) (by omega) (by omega), if_pos (by omega), lt_c hl, lt_x h1, lt_y h1, sp_day hC (by omega) hx hy, ob]
    exact ih
theorem lp_lotsM (k : am_M → am_Rs) : ∀ (e n i : Nat) (v l : Int) (C N : am_M), CB C → GdM N → N 53 1 = C 11 0 → (∀ i : Nat, (i : Int) < C 11 0 → N 55 i = C 12 i ∧ N 56 i = C 13 i) → C 11 0 ≠ 0 → DI (C 11 0) (C 12) (C 13) (C 14) (C 15) (C 16) (C 17) (C 18) (N 54) 0 → (0 ≤ l ∧ l < 2147483647) → C 14 0 + e ≤ 40 → v = (i : Int) + e → i + e ≤ 100 → e < n →
    ∃ L', XL_X9_lots_53_8 k n v l i N = k (am_row N 54 L') ∧ DI (C 11 0) (C 12) (C 13) (lotsC e l C 14) (lotsC e l C 15) (lotsC e l C 16) (lotsC e l C 17) (lotsC e l C 18) L' 0 ∧ ∀ j, 121 ≤ j → L' j = N 54 j := by
  intro e
  induction e with
  | zero =>
    intro n i v l C N hC hG es hk hs D hl hd hv hi hn
    obtain ⟨n, rfl⟩ : ∃ m, n = m + 1 := ⟨n - 1, by omega⟩
    refine ⟨N 54, ?_, D, fun _ _ => rfl⟩
    rw [XL_X9_lots_53_8, XB_X9_lots_53_8, wI_of (x := (i : Int)) (by omega) (by omega), wI_of (x := v) (by omega) (by omega), if_neg (by omega), row_self]
  | succ e ih =>
    intro n i v l C N hC hG es hk hs D hl hd hv hi hn
    obtain ⟨n, rfl⟩ : ∃ m, n = m + 1 := ⟨n - 1, by omega⟩
    have h1 := lt_r l
    have h2 := hC.2.1
    have hx : 0 ≤ lt_ l % 4 ∧ lt_ l % 4 ≤ 3 := by omega
    have hy : 0 ≤ lt_ l / 16 % 4 ∧ lt_ l / 16 % 4 ≤ 3 := by omega
    obtain ⟨L1, a1, a2, a3⟩ := m_day hC hG es hk hs D (by omega) hx hy
    have c11 : dayC (lt_ l % 4) (lt_ l / 16 % 4) C 11 = C 11 := dayC_a (by decide)
    have c12 : dayC (lt_ l % 4) (lt_ l / 16 % 4) C 12 = C 12 := dayC_a (by decide)
    have c13 : dayC (lt_ l % 4) (lt_ l / 16 % 4) C 13 = C 13 := dayC_a (by decide)
    have ih := ih n (i + 1) v (lt_ l) (dayC (lt_ l % 4) (lt_ l / 16 % 4) C) (am_row N 54 L1) (hC.day _ _) (by unfold GdM; rw [row_a (by decide), row_a (by decide), row_a (by decide)]; exact hG) (by rw [row_a (by decide), c11]; exact es) (by rw [row_a (by decide), row_a (by decide), c11, c12, c13]; exact hk) (by rw [c11]; exact hs) (by rw [c11, c12, c13, row_s]; exact a2) h1 (by show C 14 0 + 1 + e ≤ 40; omega) (by omega) (by omega) (by omega)
    rw [c11, c12, c13] at ih
    obtain ⟨L', b1, b2, b3⟩ := ih
    refine ⟨L', ?_, b2, fun j hj => by rw [b3 j hj, row_s, a3 j hj]⟩
    rw [XL_X9_lots_53_8, XB_X9_lots_53_8, wI_of (x := (i : Int)) (by omega) (by omega), wI_of (x := v) (by omega) (by omega), if_pos (by omega), lt_m hl, lt_x h1, lt_y h1, a1, ob]
    rw [row_row] at b1
    exact b1
theorem eq_lots {M : am_M} (I : Inv M) {n s : Int} (hn : iR n) (hs : iR s) : Step (X_X8_lots_0 n s) (X_X9_lots_53 n s) M := gd_lots I hn hs fun h1 h2 h3 => by
  have hG := I.g11
  have es := I.es
  have r0 := I.r0
  have rs := I.rs
  by_cases c : 40 < M 14 0 + n
  · refine st_same I (v := -2) (w := -2) ?_ ?_ rfl
    · simp (disch := omega) only [X_X8_lots_0, XB_X8_lots_0_e, wI_R hn, wI_R hs, lc_seed hs, sp_hasNoLand hG, b2_f h3, ob, wI_0, if_true, wI_of (x := M 14 0 + n), if_neg, if_pos]
    · simp (disch := omega) only [X_X9_lots_53, XB_X9_lots_53_e, wI_R hn, wI_R hs, sp_in _ hn i1 i20, sp_in _ hs i1 iS, b2_t h1, b2_t h2, ob, w1, n10, if_false, es, I.d0, wI_of (x := M 11 0), wI_of (x := M 14 0 + n), if_neg, if_pos]
  · have q := lp_lotsC XB_X8_lots_0_12 n.toNat 1000 0 n s M I.cb (by omega) (by omega) (by omega) (by omega) (by omega)
    rw [show ((0 : Nat) : Int) = 0 from rfl] at q
    have hc : X_X8_lots_0 n s M = some (lotsC n.toNat s M 14 1, lotsC n.toNat s M) := by
      simp (disch := omega) only [X_X8_lots_0, XB_X8_lots_0_e, wI_R hn, wI_R hs, lc_seed hs, sp_hasNoLand hG, b2_f h3, ob, wI_0, if_true, wI_of (x := M 14 0 + n), if_neg, if_pos, q]
      rfl
    obtain ⟨N, hN⟩ : ∃ N, N = lotsC n.toNat s M := ⟨_, rfl⟩
    have f : ∀ c, c < 14 ∨ 18 < c → N c = M c := fun c h => by rw [hN, lotsC_a h]
    obtain ⟨L', e1, e2, e3⟩ := lp_lotsM XB_X9_lots_53_10 n.toNat 1000 0 n s M N I.cb (by unfold GdM; rw [f 53 (by decide), f 55 (by decide), f 56 (by decide)]; exact I.gM) (by rw [f 53 (by decide)]; exact es) (by rw [f 55 (by decide), f 56 (by decide)]; exact I.kk) h3 (by rw [f 54 (by decide)]; exact I.2.2.2.2.1) (by omega) (by omega) (by omega) (by omega) (by omega)
    rw [show ((0 : Nat) : Int) = 0 from rfl] at e1
    rw [← hN] at hc e2
    have u1 : N 53 1 = M 11 0 := by rw [f 53 (by decide)]; exact es
    have u2 : N 54 0 = M 14 0 := by rw [f 54 (by decide)]; exact I.d0
    have hm : X_X9_lots_53 n s N = some (L' 1, am_row N 54 L') := by
      simp (disch := omega) only [X_X9_lots_53, XB_X9_lots_53_e, wI_R hn, wI_R hs, sp_in _ hn i1 i20, sp_in _ hs i1 iS, b2_t h1, b2_t h2, ob, w1, n10, if_false, u1, u2, wI_of (x := M 11 0), wI_of (x := M 14 0 + n), if_neg, e1]
      rw [XB_X9_lots_53_10, row_s]
    refine ⟨_, _, _, _, hc, hm, ?_, ?_⟩
    · rw [show N 14 1 = L' 1 from e2.1.2.2.1.symm]
    · refine inv_days I (fun a q1 q2 q3 q4 q5 q6 => by rw [row_a q6, f a (by omega)]) (fun j q1 q2 => by rw [row_s, e3 j q1, f 54 (by decide)]) ?_
      rw [row_a (by decide), row_a (by decide), row_a (by decide), row_a (by decide), row_a (by decide), row_s]
      exact e2
/-! days undone -/
noncomputable def LA (M : am_M) (n : Nat) (L : Nat → Int) : Prop := (∀ j, j < 484 → L j = M 54 j) ∧ L 484 = n ∧ L 485 = M 17 n ∧ (∀ j, 40 ≤ j → j < 121 → L (484 + j) = M 54 j) ∧ TT (M 11 0) (M 12) (M 13) (M 17) (fun j => M 54 (0 + 80 + j)) n L 484
theorem lp_lay4 (k : am_M → am_Rs) {M N : am_M} (I : Inv M) (hN : ∀ c, 53 ≤ c → N c = M c) (hs : M 11 0 ≠ 0) (v : Nat) (hv : (v : Int) ≤ M 14 0) : ∀ (e n i : Nat) (L : Nat → Int), LA M i L → i + e = v → e < n → ∃ L', XL_X9_layAhead_53_4 k n v i (am_row N 54 L) = k (am_row N 54 L') ∧ LA M v L'
  | 0, n + 1, i, L, hL, hi, hn => by
    have r0 := I.r0
    refine ⟨L, ?_, by rw [← hi, Nat.add_zero]; exact hL⟩
    rw [XL_X9_layAhead_53_4, XB_X9_layAhead_53_4, wI_of (x := (i : Int)) (by omega) (by omega), wI_of (x := (v : Int)) (by omega) (by omega), if_neg (by omega)]
  | e + 1, n + 1, i, L, hL, hi, hn => by
    have r0 := I.r0
    have rs := I.rs
    obtain ⟨q1, q2, q3, q4, q5⟩ := hL
    obtain ⟨⟨o1, o2, o3, o4, o5, o6, o7, o8, o9⟩, ⟨s1, s2⟩, ⟨y1, y2, y3, y4, y5⟩, ⟨p1, p2⟩, hT⟩ := I.2.2.2.2.1
    have a1 := (s1 i).1
    have a2 := (s1 i).2
    obtain ⟨w1', w2, w3⟩ := s2 i (by omega)
    have l80 : L (80 + i) = M 54 (0 + 80 + i) := by rw [q1 _ (by omega), Nat.zero_add]
    have l40 : L (40 + i) = 4 * M 15 i + M 16 i := by rw [q1 _ (by omega), ← w1', Nat.zero_add]
    obtain ⟨R, hR⟩ : ∃ R, M 54 (0 + 80 + i) = R := ⟨_, rfl⟩
    rw [hR] at w2 w3 l80
    have hh := y4 i (by omega)
    have hh0 := (y3 i).1
    obtain ⟨N1, hN1⟩ : ∃ N1, N1 = am_up (am_up (am_row N 54 L) 54 486 (R / 10)) 54 487 (R % 10) := ⟨_, rfl⟩
    have f : ∀ c, 53 ≤ c → c ≠ 54 → N1 c = M c := fun c h0 h => by rw [hN1, up_a h, up_a h, row_a h, hN c h0]
    have g : ∀ j, j ≠ 486 → j ≠ 487 → N1 54 j = L j := fun j h1 h2 => by rw [hN1, up_j h2, up_j h1, row_s]
    have g6 : N1 54 (484 + 2) = R / 10 := by rw [hN1, up_j (by decide), up_s]
    have g7 : N1 54 (484 + 3) = R % 10 := by rw [hN1, up_s]
    have hrow : ∀ F : Nat → Int, am_row N1 54 F = am_row N 54 F := fun F => by rw [hN1, up_row, up_row, row_row, row_row, row_row]
    have hbb : aft (N1 53 1) (N1 55) (N1 54 (484 + 1)) i (M 15 i) (M 16 i) = M 17 (i + 1) := by
      rw [f 53 (by decide) (by decide), f 55 (by decide) (by decide), I.es, aft_c (fun j h => I.kd h), g _ (by decide) (by decide), q3, y5 i (by omega)]
    obtain ⟨L1, e1, l0, l1, l2, l3, l4, l5, lq, lj⟩ := sp_goOn 484 (Or.inr rfl) (N := N1) (by unfold GdM; rw [f 53 (by decide) (by decide), f 55 (by decide) (by decide), f 56 (by decide) (by decide)]; exact I.gM) (by rw [f 53 (by decide) (by decide), I.es]; omega) a1 a2 (d := i) (by rw [g _ (by decide) (by decide), q2]) (by omega) (by rw [g _ (by decide) (by decide), f 53 (by decide) (by decide), I.es, q3]; exact ⟨hh0, hh⟩) (by rw [g6]; omega) (by rw [g7]; omega) hbb
    have hLA : LA M (i + 1) L1 := by
      refine ⟨fun j hj => ?_, l0, l1, fun j h1 h2 => ?_, ?_⟩
      · rw [lj j (by omega) (by omega) (by omega), g j (by omega) (by omega), q1 j hj]
      · by_cases c1 : j = 40 + i
        · subst c1
          rw [show 484 + (40 + i) = 484 + 40 + i by omega, l4, ← w1', Nat.zero_add]
        · by_cases c2 : j = 80 + i
          · subst c2
            rw [show 484 + (80 + i) = 484 + 80 + i by omega, l5, g6, g7, show M 54 (80 + i) = R from hR]; omega
          · rw [lj (484 + j) (by omega) (by omega) (by omega), g _ (by omega) (by omega), q4 j h1 h2]
      · refine TT_s q5 (r0 := R / 10) (r1 := R % 10) (by omega) (by omega) (by show M 54 (0 + 80 + i) = _; rw [hR]; omega) (fun q hq => ?_)
        have := lq q (by rw [f 53 (by decide) (by decide), I.es]; exact hq)
        rw [g6, g7, f 55 (by decide) (by decide), f 56 (by decide) (by decide), due_c (i := (q : Int)) (I.kd hq) (I.du hq), due_c (i := (q : Int)) (I.kd hq) (I.du hq), g _ (by omega) (by omega), g _ (by omega) (by omega), g _ (by omega) (by omega), g _ (by omega) (by omega), q3] at this
        exact this
    obtain ⟨L', b1, b2⟩ := lp_lay4 k I hN hs v hv e n (i + 1) L1 hLA (by omega) (by omega)
    refine ⟨L', ?_, b2⟩
    have u1 : ∀ _ : Unit, wI (80 + (i : Int)) = ((80 + i : Nat) : Int) := fun _ => by rw [wI_of (by omega) (by omega)]; push_cast; omega
    have u2 : ∀ _ : Unit, wI (40 + (i : Int)) = ((40 + i : Nat) : Int) := fun _ => by rw [wI_of (by omega) (by omega)]; push_cast; omega
    have u3 : ∀ X : Int, (am_up (am_row N 54 L) 54 486 X) 54 (80 + i) = R := fun X => by rw [up_j (by omega), row_s, l80]
    have u4 : (am_row N 54 L) 54 (80 + i) = R := by rw [row_s, l80]
    have u5 : N1 54 (40 + i) = 4 * M 15 i + M 16 i := by rw [g _ (by omega) (by omega), l40]
    have u6 : ∀ _ : Unit, (wI R).tdiv 10 = R / 10 := fun _ => by rw [wI_of (by omega) (by omega), Int.tdiv_eq_ediv_of_nonneg w2]
    have u7 : ∀ _ : Unit, (wI R).tmod 10 = R % 10 := fun _ => by rw [wI_of (by omega) (by omega), Int.tmod_eq_emod_of_nonneg w2]
    have u8 : ∀ _ : Unit, (wI (4 * M 15 i + M 16 i)).tdiv 4 = M 15 i := fun _ => by rw [wI_of (by omega) (by omega), Int.tdiv_eq_ediv_of_nonneg (by omega)]; omega
    have u9 : ∀ _ : Unit, (wI (4 * M 15 i + M 16 i)).tmod 4 = M 16 i := fun _ => by rw [wI_of (by omega) (by omega), Int.tmod_eq_emod_of_nonneg (by omega)]; omega
    rw [XL_X9_layAhead_53_4, XB_X9_layAhead_53_4, wI_of (x := (i : Int)) (by omega) (by omega), wI_of (x := (v : Int)) (by omega) (by omega), if_pos (by omega)]
    simp only [u1 (), u2 (), Int.toNat_natCast, u3, u4, u6 (), u7 (), ← hN1, u5, u8 (), u9 ()]
    rw [if_pos (by omega), if_pos (by omega), if_pos (by omega), if_pos (by omega)]
    rw [show ((484 : Nat) : Int) = 484 from rfl] at e1
    rw [e1, ob, hrow]
    exact b1
theorem sp_layAhead {M N : am_M} (I : Inv M) (hN : ∀ c, 53 ≤ c → N c = M c) (n : Nat) (hn : (n : Int) ≤ M 14 0) : ∃ L', X_X9_layAhead_53 n N = some (0, am_row N 54 L') ∧ LA M n L' ∧ L' 486 = M 54 2 ∧ L' 487 = M 54 3 := by
  have r0 := I.r0
  have c := sp_copyLand (M := N) (a := 0) (b := 484) (by omega) (by omega) (by omega)
  rw [show ((0 : Nat) : Int) = 0 from rfl, show ((484 : Nat) : Int) = 484 from rfl] at c
  obtain ⟨L0, hL0⟩ : ∃ L0 : Nat → Int, L0 = fun j => if j = 485 then M 54 120 else if 484 ≤ j ∧ j < 524 then 0 else if 484 ≤ j ∧ j < 605 then M 54 (j - 484) else M 54 j := ⟨_, rfl⟩
  have hLA : LA M 0 L0 := by
    refine ⟨fun j hj => ?_, ?_, ?_, fun j h1 h2 => ?_, fun i hi => ?_⟩
    · rw [hL0]; dsimp only; rw [if_neg (by omega), if_neg (by omega), if_neg (by omega)]
    · rw [hL0]; rfl
    · rw [hL0]; exact I.2.2.2.2.1.2.2.1.1.symm
    · rw [hL0]; dsimp only; rw [if_neg (by omega), if_neg (by omega), if_pos (by omega), show 484 + j - 484 = j by omega]
    · have rs := I.rs
      rw [hL0]; dsimp only
      rw [if_neg (by omega), if_pos (by omega), if_neg (by omega), if_pos (by omega), if_neg (by omega), if_pos (by omega)]
      exact ⟨rfl, rfl, rfl⟩
  have hst : X_X9_layAhead_53 n N = XL_X9_layAhead_53_4 XB_X9_layAhead_53_6 1000 n 0 (am_row N 54 L0) := by
    rw [X_X9_layAhead_53, XB_X9_layAhead_53_e, c, ob]
    dsimp only
    have l := lp_lay1 (XB_X9_layAhead_53_3 (XL_X9_layAhead_53_4 XB_X9_layAhead_53_6 1000)) n 40 1000 (am_row N 54 fun j => if 484 ≤ j ∧ j < 484 + 121 then N 54 (0 + (j - 484)) else N 54 j) 0 (by omega) (by omega)
    rw [show ((0 : Nat) : Int) = 0 from rfl] at l
    rw [l, row_row, XB_X9_layAhead_53_3, up_row, row_row]
    refine congrArg (fun F => XL_X9_layAhead_53_4 XB_X9_layAhead_53_6 1000 n 0 (am_row N 54 F)) (funext fun j => ?_)
    rw [hL0, row_s, row_s, hN 54 (by decide)]
    dsimp only
    by_cases c1 : j = 485
    · rw [if_pos c1, if_pos c1, if_neg (by omega), if_neg (by omega)]
    · rw [if_neg c1, if_neg c1]
      by_cases c2 : 484 ≤ j ∧ j < 524
      · rw [if_pos (by omega), if_pos c2]
      · rw [if_neg (by omega), if_neg c2]
        by_cases c3 : 484 ≤ j ∧ j < 605
        · rw [if_pos (by omega), if_pos c3, Nat.zero_add]
        · rw [if_neg (by omega), if_neg c3]
  have hend : ∃ L', XL_X9_layAhead_53_4 XB_X9_layAhead_53_6 1000 n 0 (am_row N 54 L0) = XB_X9_layAhead_53_6 (am_row N 54 L') ∧ LA M n L' := by
    by_cases hs : M 11 0 = 0
    · have h0 := I.2.2.2.2.1.1.2.2.2.2.2.2.2.2 hs
      have : n = 0 := by omega
      subst this
      refine ⟨L0, ?_, hLA⟩
      rw [XL_X9_layAhead_53_4, XB_X9_layAhead_53_4, if_neg (by decide)]
    · have := lp_lay4 XB_X9_layAhead_53_6 I hN hs n hn n 1000 0 L0 hLA (by omega) (by omega)
      rw [show ((0 : Nat) : Int) = 0 from rfl] at this
      exact this
  obtain ⟨L1, e1, q1, q2, q3, q4, q5⟩ := hend
  refine ⟨fun j => if j = 487 then M 54 3 else if j = 486 then M 54 2 else L1 j, ?_, ⟨fun j hj => ?_, q2, q3, fun j h1 h2 => ?_, fun i hi => ?_⟩, rfl, rfl⟩
  · rw [hst, e1, XB_X9_layAhead_53_6]
    simp only [up_row, row_row, row_s]
    rw [q1 2 (by omega), if_neg (by decide), q1 3 (by omega)]
  · dsimp only; rw [if_neg (by omega), if_neg (by omega), q1 j hj]
  · dsimp only; rw [if_neg (by omega), if_neg (by omega), q4 j h1 h2]
  · dsimp only
    rw [if_neg (by omega), if_neg (by omega), if_neg (by omega), if_neg (by omega), if_neg (by omega), if_neg (by omega)]
    exact q5 i hi
theorem sp_ahead {M : am_M} (I : Inv M) {n : Nat} (hn : (n : Int) ≤ M 14 0) : X_X1_borderAhead_14 n M = some (M 17 n, M) := by
  have r0 := I.r0
  simp (disch := omega) only [X_X1_borderAhead_14, wI_of (x := (n : Int)), if_neg, if_pos, Int.toNat_natCast]
theorem Kp.LA {M : am_M} {n : Nat} {L : Nat → Int} (h : LA M n L) : Kp M (am_row M 54 L) := Kp.row54 h.1
theorem sp_lain {M : am_M} (I : Inv M) {n : Nat} (hn : (n : Int) ≤ M 14 0) : ∃ M2, X_X9_lain_53 n M = some (M 17 n, M2) ∧ Kp M M2 := by
  have r0 := I.r0
  obtain ⟨L', e1, e2, e3, e4⟩ := sp_layAhead I (fun _ _ => rfl) n hn
  refine ⟨_, ?_, Kp.LA e2⟩
  rw [X_X9_lain_53, I.d0, wI_of (x := (n : Int)) (by omega) (by omega), wI_of (x := M 14 0) (by omega) (by omega), sp_in M (by unfold iR; omega) i0 (by unfold iR; omega), b2_t (by omega), ob]
  dsimp only
  rw [if_neg (by decide), e1, ob]
  dsimp only
  rw [row_s, e2.2.2.1]
theorem eq_lain {M : am_M} (I : Inv M) {n : Int} (hn : iR n) : Step (X_X8_lain_0 n) (X_X9_lain_53 n) M := gd_lain I hn fun h => by
  have r0 := I.r0
  obtain ⟨k, rfl⟩ := Int.eq_ofNat_of_zero_le h.1
  obtain ⟨M2, e1, e2⟩ := sp_lain I h.2
  refine st_kp I (v := M 17 k) ?_ (Kp.rf M) e1 e2 rfl
  simp (disch := omega) only [X_X8_lain_0, wI_of (x := (k : Int)), wI_of (x := M 14 0), if_neg, sp_ahead I h.2, ob]
theorem eq_undo {M : am_M} (I : Inv M) {n : Int} (hn : iR n) : Step (X_X8_undo_0 n) (X_X9_undo_53 n) M := gd_undo I hn fun h => by
  have r0 := I.r0
  have rs := I.rs
  obtain ⟨k, rfl⟩ := Int.eq_ofNat_of_zero_le h.1
  obtain ⟨⟨o1, o2, o3, o4, o5, o6, o7, o8, o9⟩, ⟨s1, s2⟩, ⟨y1, y2, y3, y4, y5⟩, ⟨p1, p2⟩, hT⟩ := I.2.2.2.2.1
  obtain ⟨M1, hM1⟩ : ∃ M1, M1 = am_up (am_up M 14 1 (M 17 k)) 14 0 k := ⟨_, rfl⟩
  have hc : X_X8_undo_0 k M = some (M 14 0 - k, M1) := by
    simp (disch := omega) only [X_X8_undo_0, X_X1_goBackTo_14, wI_of (x := (k : Int)), wI_of (x := M 14 0), if_neg, sp_ahead I h.2, ob, ← hM1]
  have f : ∀ c, c ≠ 14 → M1 c = M c := fun c q => by rw [hM1, up_a q, up_a q]
  obtain ⟨L', e1, ⟨q1, q2, q3, q4, q5⟩, e3, e4⟩ := sp_layAhead I (N := M1) (fun c hc => f c (by omega)) k h.2
  have cl := sp_copyLand (M := am_row M1 54 L') (a := 484) (b := 0) (by omega) (by omega) (by omega)
  rw [show ((0 : Nat) : Int) = 0 from rfl, show ((484 : Nat) : Int) = 484 from rfl, row_row] at cl
  obtain ⟨L2, hL2⟩ : ∃ L2 : Nat → Int, L2 = fun j => if 0 ≤ j ∧ j < 0 + 121 then (am_row M1 54 L') 54 (484 + (j - 0)) else (am_row M1 54 L') 54 j := ⟨_, rfl⟩
  rw [← hL2] at cl
  have u1 : ∀ j, j < 121 → L2 j = L' (484 + j) := fun j hj => by rw [hL2]; dsimp only; rw [if_pos (by omega), row_s, Nat.sub_zero]
  have u2 : ∀ j, 121 ≤ j → L2 j = L' j := fun j hj => by rw [hL2]; dsimp only; rw [if_neg (by omega), row_s]
  have d0 : M1 54 0 = M 14 0 := by rw [f 54 (by decide), I.d0]
  have hm : X_X9_undo_53 k M1 = some (M 14 0 - k, am_row M1 54 L2) := by
    rw [X_X9_undo_53, d0, wI_of (x := (k : Int)) (by omega) (by omega), wI_of (x := M 14 0) (by omega) (by omega), sp_in M1 (by unfold iR; omega) i0 (by unfold iR; omega), b2_t (by omega), ob]
    dsimp only
    rw [if_neg (by decide), e1, ob]
    dsimp only
    rw [cl, ob, d0]
  refine ⟨_, _, _, _, hc, hm, rfl, ?_⟩
  have z0 : M1 14 0 = k := by rw [hM1, up_s]
  have z1 : M1 14 1 = M 17 k := by rw [hM1, up_j (by decide), up_s]
  have z2 : ∀ j, 2 ≤ j → M1 14 j = M 14 j := fun j hj => by rw [hM1, up_j (by omega), up_j (by omega)]
  refine inv_days I (fun a h1 h2 h3 h4 h5 h6 => by rw [row_a h6, f a h1]) (fun j h1 h2 => by rw [row_s, u2 j h1, q1 j h2]) ?_
  rw [row_a (by decide), row_a (by decide), row_a (by decide), row_a (by decide), row_a (by decide), row_s, f 15 (by decide), f 16 (by decide), f 17 (by decide), f 18 (by decide)]
  refine ⟨⟨?_, ?_, ?_, ?_, ?_, ?_, ?_, ?_, ?_⟩, ⟨s1, fun j hj => ?_⟩, ⟨?_, ?_, y3, fun j hj => ?_, fun j hj => ?_⟩, ⟨p1, fun t i ht hi => ?_⟩, ?_⟩
  · rw [u1 0 (by omega), z0]; exact q2
  · rw [z0]; omega
  · rw [u1 _ (by omega), z1]; exact q3
  · rw [z1]; exact ⟨(y3 k).1, y4 k h.2⟩
  · rw [u1 _ (by omega), z2 2 (by omega)]; exact e3.trans o5
  · rw [u1 _ (by omega), z2 3 (by omega)]; exact e4.trans o6
  · rw [z2 2 (by omega)]; exact o7
  · rw [z2 3 (by omega)]; exact o8
  · intro q; have := o9 q; rw [z0]; omega
  · rw [z0] at hj
    rw [u1 _ (by omega), u1 _ (by omega), q4 _ (by omega) (by omega), q4 _ (by omega) (by omega)]
    exact s2 j (by omega)
  · rw [u1 _ (by omega), q4 _ (by omega) (by omega)]; exact y1
  · rw [z0, z1, Int.toNat_natCast]
  · rw [z0] at hj; exact y4 j (by omega)
  · rw [z0] at hj; exact y5 j (by omega)
  · rw [z0] at ht
    dsimp only
    rw [u1 _ (by omega), q4 _ (by omega) (by omega)]
    exact p2 t i (by omega) hi
  · rw [z0, DI_TT]
    have hT2 := TT_c (h' := M 17) (R' := fun j => L2 (0 + 80 + j)) q5 (fun _ _ => rfl) (fun j hj => by rw [u1 _ (by omega), q4 _ (by omega) (by omega)])
    intro i hi
    have := hT2 i hi
    rw [show 484 + 4 + 3 * i = 484 + (0 + 4 + 3 * i) by omega, ← u1 _ (by omega), show 484 + (0 + 4 + 3 * i) + 1 = 484 + (0 + 4 + 3 * i + 1) by omega, ← u1 _ (by omega), show 484 + (0 + 4 + 3 * i) + 2 = 484 + (0 + 4 + 3 * i + 2) by omega, ← u1 _ (by omega)] at this
    exact this
/-- calls whose answers are not compared: both sides return and the invariant is kept -/
noncomputable def Go (X Y : am_M → am_Rs) (M : am_M) : Prop := ∃ v w M1 M2, X M = some (v, M1) ∧ Y M1 = some (w, M2) ∧ Inv M2
theorem Step.go {X Y : am_M → am_Rs} {M : am_M} (h : Step X Y M) : Go X Y M := by
  obtain ⟨v, w, M1, M2, a, b, -, d⟩ := h
  exact ⟨v, w, M1, M2, a, b, d⟩
theorem StepL.go {X Y : am_M → am_Rs} {M : am_M} (h : StepL X Y M) : Go X Y M := by
  obtain ⟨v, w, M1, M2, a, b, -, d⟩ := h
  exact ⟨v, w, M1, M2, a, b, d⟩
