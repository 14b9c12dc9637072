/-! A land begun: both sides. -/
theorem inv_land {M N : am_M} (I : Inv M) {m : Nat} {b r0 r1 : Int} (hk : ∀ a, (a ≤ 6 ∨ a = 15 ∨ a = 16 ∨ (18 ≤ a ∧ a ≤ 34) ∨ a = 52 ∨ (57 ≤ a ∧ a ≤ 61)) → N a = M a) (h53 : ∀ j, (8 ≤ j ∧ j ≤ 11) → N 53 j = M 53 j) (hm : 2 ≤ m ∧ m ≤ 12) (h11 : N 11 0 = m) (h531 : N 53 1 = m) (b9 : ∀ i, 0 ≤ N 9 i ∧ N 9 i ≤ 5) (b10 : ∀ i, 0 ≤ N 10 i ∧ N 10 i ≤ 9) (b12 : ∀ i, 0 ≤ N 12 i ∧ N 12 i ≤ 5) (b13 : ∀ i, 0 ≤ N 13 i ∧ N 13 i ≤ 9) (b55 : ∀ i, 0 ≤ N 55 i ∧ N 55 i ≤ 5) (b56 : ∀ i, 0 ≤ N 56 i ∧ N 56 i ≤ 9) (he : ∀ i : Nat, i < m → N 55 i = N 12 i ∧ N 56 i = N 13 i) (o0 : N 14 0 = 0) (o1 : N 14 1 = b) (o2 : N 14 2 = r0) (o3 : N 14 3 = r1) (hb : 0 ≤ b ∧ b ≤ m) (hr0 : 0 ≤ r0 ∧ r0 ≤ 9) (hr1 : 0 ≤ r1 ∧ r1 ≤ 9) (h17 : N 17 0 = b) (b17 : ∀ i, 0 ≤ N 17 i ∧ N 17 i ≤ 12) (h35 : N 35 0 = -1 ∧ N 35 1 = -1 ∧ N 35 2 = -1) (l0 : N 54 0 = 0) (l1 : N 54 1 = b) (l2 : N 54 2 = r0) (l3 : N 54 3 = r1) (lz : ∀ j, 4 ≤ j → j < 120 → N 54 j = 0) (l120 : N 54 120 = b) (lk : N 54 121 = -1 ∧ N 54 242 = -1 ∧ N 54 363 = -1) : Inv N := by
  obtain ⟨i1, i2, i3, i4, i5, ⟨k1, k2, k3⟩, i7⟩ := I
  unfold Inv
  rw [hk 1 (by decide), hk 2 (by decide), hk 3 (by decide), hk 4 (by decide), hk 5 (by decide), hk 6 (by decide), hk 57 (by decide), hk 58 (by decide), hk 59 (by decide), hk 60 (by decide), hk 15 (by decide), hk 16 (by decide), hk 18 (by decide), hk 20 (by decide), hk 21 (by decide), hk 22 (by decide), hk 23 (by decide), hk 24 (by decide), hk 25 (by decide), hk 26 (by decide), hk 27 (by decide), hk 28 (by decide), hk 29 (by decide), hk 30 (by decide), hk 31 (by decide), hk 32 (by decide), hk 33 (by decide), hk 34 (by decide), hk 0 (by decide), hk 52 (by decide), hk 61 (by decide), h11, h531]
  refine ⟨i1, i2, i3, ⟨rfl, by omega, by omega, b12, b13, b55, b56, fun i hi => he i (by omega), b9, b10⟩, ⟨⟨by rw [l0, o0], by rw [o0]; omega, by rw [o1]; exact l1, by rw [o1]; exact hb, by rw [o2]; exact l2, by rw [o3]; exact l3, by rw [o2]; exact hr0, by rw [o3]; exact hr1, fun _ => o0⟩, ⟨i5.2.1.1, fun j hj => by rw [o0] at hj; omega⟩, ⟨?_, ?_, b17, ?_, ?_⟩, ⟨i5.2.2.2.1.1, fun t i h1 _ => by rw [o0] at h1; omega⟩, ?_⟩, ⟨⟨?_, ?_, ?_, ?_, k1.2.2.2.2⟩, ⟨?_, ?_, ?_, ?_, k2.2.2.2.2⟩, ⟨?_, ?_, ?_, ?_, k3.2.2.2.2⟩⟩, ?_⟩
  · rw [h17]; exact l120.symm
  · rw [o0, o1]; exact h17
  · intro j hj
    rw [o0] at hj
    have : j = 0 := by omega
    rw [this, h17]; exact hb.2
  · intro j hj
    rw [o0] at hj; omega
  · intro i hi
    rw [o0]
    refine ⟨?_, ?_, ?_⟩
    · rw [lz _ (by omega) (by omega)]; rfl
    · rw [lz _ (by omega) (by omega)]; rfl
    · rw [lz _ (by omega) (by omega)]; rfl
  · rw [lk.1, h35.1]
  · rw [h35.1]; decide
  · rw [h35.1]; decide
  · intro h; rw [h35.1] at h; omega
  · rw [lk.2.1, h35.2.1]
  · rw [h35.2.1]; decide
  · rw [h35.2.1]; decide
  · intro h; rw [h35.2.1] at h; omega
  · rw [lk.2.2, h35.2.2]
  · rw [h35.2.2]; decide
  · rw [h35.2.2]; decide
  · intro h; rw [h35.2.2] at h; omega
  · unfold TlI at i7 ⊢
    rw [h53 11 (by decide), h53 8 (by decide), h53 9 (by decide), h53 10 (by decide)]
    exact i7
/-! the model's loops -/
theorem lp_l7 (k : am_M → am_Rs) {D : am_M} {m : Nat} (hm : m ≤ 12) (h53 : D 53 1 = m) (hb : ∀ j, j < m → (0 ≤ D 62 (2 * j) ∧ D 62 (2 * j) ≤ 5) ∧ (0 ≤ D 62 (2 * j + 1) ∧ D 62 (2 * j + 1) ≤ 9)) : ∀ (e n i : Nat) (f g : Nat → Int), i + e = m → e < n → (∀ j, j < i → f j = D 62 (2 * j) ∧ g j = D 62 (2 * j + 1)) → (∀ j, (0 ≤ f j ∧ f j ≤ 5) ∧ (0 ≤ g j ∧ g j ≤ 9)) → ∃ f' g', XL_X9_land_53_7 k n i (am_row (am_row D 55 f) 56 g) = k (am_row (am_row D 55 f') 56 g') ∧ (∀ j, j < m → f' j = D 62 (2 * j) ∧ g' j = D 62 (2 * j + 1)) ∧ (∀ j, (0 ≤ f' j ∧ f' j ≤ 5) ∧ (0 ≤ g' j ∧ g' j ≤ 9)) := by
  intro e
  induction e with
  | zero =>
    intro n i f g hi hn h1 h2
    obtain ⟨n, rfl⟩ : ∃ q, n = q + 1 := ⟨n - 1, by omega⟩
    refine ⟨f, g, ?_, fun j hj => h1 j (by omega), h2⟩
    rw [XL_X9_land_53_7, XB_X9_land_53_7, row_a (a' := 53) (by decide), row_a (a' := 53) (by decide), h53, wI_of (x := (i : Int)) (by omega) (by omega), wI_of (x := (m : Int)) (by omega) (by omega), if_neg (by omega)]
  | succ e ih =>
    intro n i f g hi hn h1 h2
    obtain ⟨n, rfl⟩ : ∃ q, n = q + 1 := ⟨n - 1, by omega⟩
    obtain ⟨f', g', a1, a2⟩ := ih n (i + 1) (fun j => if j = i then D 62 (2 * i) else f j) (fun j => if j = i then D 62 (2 * i + 1) else g j) (by omega) (by omega) (fun j hj => by
      by_cases c : j = i
      · rw [if_pos c, if_pos c, c]; exact ⟨rfl, rfl⟩
      · rw [if_neg c, if_neg c]; exact h1 j (by omega)) (fun j => by
      by_cases c : j = i
      · rw [if_pos c, if_pos c]; exact hb i (by omega)
      · rw [if_neg c, if_neg c]; exact h2 j)
    refine ⟨f', g', ?_, a2⟩
    rw [← a1, XL_X9_land_53_7, XB_X9_land_53_7, row_a (a' := 53) (by decide), row_a (a' := 53) (by decide), h53, wI_of (x := (i : Int)) (by omega) (by omega), wI_of (x := (m : Int)) (by omega) (by omega), if_pos (by omega), show 2 * (i : Int) = ((2 * i : Nat) : Int) by omega, show ((2 * i : Nat) : Int) + 1 = ((2 * i + 1 : Nat) : Int) by omega, wI_of (x := ((2 * i : Nat) : Int)) (by omega) (by omega), wI_of (x := ((2 * i + 1 : Nat) : Int)) (by omega) (by omega), if_pos (by omega), if_pos (by omega), if_pos (by omega), if_pos (by omega), Int.toNat_natCast, Int.toNat_natCast, Int.toNat_natCast, up_a (a' := 62) (by decide), row_a (a' := 62) (by decide), row_a (a' := 62) (by decide), show (i : Int) + 1 = ((i + 1 : Nat) : Int) by omega]
    congr 1
    funext a
    by_cases c5 : a = 55
    · subst c5
      rw [up_a (by decide), row_a (by decide), row_s, up_row, row_s, row_a (by decide), row_s]
    · by_cases c6 : a = 56
      · subst c6
        rw [row_s, up_row, row_s, up_a (by decide), row_s]
      · rw [up_a c6, up_a c5, row_a c6, row_a c5, row_a c6, row_a c5]
theorem lp_l10 (k : am_M → am_Rs) (D : am_M) : ∀ (e n i : Nat) (L : Nat → Int), i + e = 121 → e < n → (∀ j, j < i → L j = 0) → ∃ L', XL_X9_land_53_10 k n i (am_row D 54 L) = k (am_row D 54 L') ∧ ∀ j, j < 121 → L' j = 0 := by
  intro e
  induction e with
  | zero =>
    intro n i L hi hn h1
    obtain ⟨n, rfl⟩ : ∃ q, n = q + 1 := ⟨n - 1, by omega⟩
    refine ⟨L, ?_, fun j hj => h1 j (by omega)⟩
    rw [XL_X9_land_53_10, XB_X9_land_53_10, wI_of (x := (i : Int)) (by omega) (by omega), if_neg (by omega)]
  | succ e ih =>
    intro n i L hi hn h1
    obtain ⟨n, rfl⟩ : ∃ q, n = q + 1 := ⟨n - 1, by omega⟩
    obtain ⟨L', a1, a2⟩ := ih n (i + 1) (fun j => if j = i then 0 else L j) (by omega) (by omega) (fun j hj => by
      by_cases c : j = i
      · rw [if_pos c]
      · rw [if_neg c]; exact h1 j (by omega))
    refine ⟨L', ?_, a2⟩
    rw [← a1, XL_X9_land_53_10, XB_X9_land_53_10, wI_of (x := (i : Int)) (by omega) (by omega), if_pos (by omega), if_pos (by omega), Int.toNat_natCast, up_row, row_row, row_s, show (i : Int) + 1 = ((i + 1 : Nat) : Int) by omega]
theorem st_l13 (k : am_M → am_Rs) (D : am_M) (L : Nat → Int) (n : Nat) {v : Nat} (hv : v < 4) : XL_X9_land_53_13 k (n + 1) v (am_row D 54 L) = XL_X9_land_53_13 k n ((v + 1 : Nat) : Int) (am_row D 54 (fun j => if j = 121 * v then -1 else L j)) := by
  rw [XL_X9_land_53_13, XB_X9_land_53_13, wI_of (x := (v : Int)) (by omega) (by omega), if_pos (by omega), show 121 * (v : Int) + 0 = ((121 * v : Nat) : Int) by omega, wI_of (x := ((121 * v : Nat) : Int)) (by omega) (by omega), if_pos (by omega), Int.toNat_natCast, up_row, row_row, row_s, show (v : Int) + 1 = ((v + 1 : Nat) : Int) by omega]
theorem sp_l12 (D : am_M) (L : Nat → Int) (hL : ∀ j, j < 121 → L j = 0) : ∃ L', XB_X9_land_53_12 (XL_X9_land_53_13 XB_X9_land_53_15 1000) (am_row D 54 L) = some (D 53 1, am_row D 54 L') ∧ L' 0 = 0 ∧ L' 1 = D 63 0 ∧ L' 2 = D 63 1 ∧ L' 3 = D 63 2 ∧ (∀ j, 4 ≤ j → j < 120 → L' j = 0) ∧ L' 120 = D 63 0 ∧ L' 121 = -1 ∧ L' 242 = -1 ∧ L' 363 = -1 := by
  obtain ⟨L1, hL1⟩ : ∃ L1 : Nat → Int, L1 = fun j => if j = 3 then D 63 2 else if j = 2 then D 63 1 else if j = 120 then D 63 0 else if j = 1 then D 63 0 else L j := ⟨_, rfl⟩
  have e0 : XB_X9_land_53_12 (XL_X9_land_53_13 XB_X9_land_53_15 1000) (am_row D 54 L) = XL_X9_land_53_13 XB_X9_land_53_15 (999 + 1) ((1 : Nat) : Int) (am_row D 54 L1) := by
    have eu : am_up (am_up (am_up (am_up (am_row D 54 L) 54 1 (D 63 0)) 54 120 (D 63 0)) 54 2 (D 63 1)) 54 3 (D 63 2) = am_row D 54 L1 := by
      rw [hL1]
      funext a
      by_cases c : a = 54
      · subst c; funext j; simp [am_up, am_row]
      · rw [up_a c, up_a c, up_a c, up_a c, row_a c, row_a c]
    rw [XB_X9_land_53_12]
    simp only [up_a (show (63 : Nat) ≠ 54 by decide), row_a (show (63 : Nat) ≠ 54 by decide)]
    rw [eu]
    rfl
  refine ⟨fun j => if j = 121 * 3 then -1 else if j = 121 * 2 then -1 else if j = 121 * 1 then -1 else L1 j, ?_, ?_, ?_, ?_, ?_, ?_, ?_, ?_, ?_, ?_⟩
  · rw [e0, st_l13 _ _ _ 999 (by decide), st_l13 _ _ _ 998 (by decide), st_l13 _ _ _ 997 (by decide)]
    show XL_X9_land_53_13 XB_X9_land_53_15 (996 + 1) ((4 : Nat) : Int) _ = _
    rw [XL_X9_land_53_13, XB_X9_land_53_13, if_neg (by decide), XB_X9_land_53_15, row_a (by decide)]
  · rw [hL1]; exact hL 0 (by decide)
  · rw [hL1]; rfl
  · rw [hL1]; rfl
  · rw [hL1]; rfl
  · intro j h1 h2
    rw [hL1]
    dsimp only
    rw [if_neg (by omega), if_neg (by omega), if_neg (by omega), if_neg (by omega), if_neg (by omega), if_neg (by omega), if_neg (by omega)]
    exact hL j (by omega)
  · rw [hL1]; rfl
  · rfl
  · rfl
  · rfl
/-! the class's end of it -/
theorem st_fill (k : am_M → am_Rs) (M : am_M) (n : Nat) {v : Nat} (hv : v < 3) : XL_J7_fill_53178_35_1 k (n + 1) (-1) v 3 M = XL_J7_fill_53178_35_1 k n (-1) ((v + 1 : Nat) : Int) 3 (am_up M 35 v (-1)) := by
  rw [XL_J7_fill_53178_35_1, XB_J7_fill_53178_35_1, wI_of (x := (v : Int)) (by omega) (by omega), if_pos (show (v : Int) < wI 3 by rw [wI_of (by decide) (by decide)]; omega), if_pos (by omega), Int.toNat_natCast, show (v : Int) + 1 = ((v + 1 : Nat) : Int) by omega]
noncomputable def cFl (C : am_M) : am_M := am_up (am_up (am_up C 35 0 (-1)) 35 1 (-1)) 35 2 (-1)
noncomputable def cTk (C : am_M) : am_M := am_cpy (am_cpy (am_up C 11 0 (C 8 0)) 9 12 0 0 12) 10 13 0 0 12
noncomputable def cBg (C : am_M) : am_M := am_up (am_up (am_up (am_up (am_up C 14 0 0) 14 1 (C 7 1)) 14 2 (C 7 2)) 14 3 (C 7 3)) 17 0 (C 7 1)
theorem sp_fill (C : am_M) : X_J7_fill_53178_35 (-1) C = some (0, cFl C) := by
  rw [X_J7_fill_53178_35, XB_J7_fill_53178_35_e]
  have e : XL_J7_fill_53178_35_1 XB_J7_fill_53178_35_3 (999 + 1) (-1) ((0 : Nat) : Int) 3 C = some (0, cFl C) := by
    rw [st_fill _ _ 999 (by decide), st_fill _ _ 998 (by decide), st_fill _ _ 997 (by decide)]
    show XL_J7_fill_53178_35_1 XB_J7_fill_53178_35_3 (996 + 1) (-1) ((3 : Nat) : Int) 3 _ = _
    rw [XL_J7_fill_53178_35_1, XB_J7_fill_53178_35_1, if_neg (by decide)]
    rfl
  exact e
theorem cF_o {C : am_M} {a : Nat} (h1 : a ≠ 11) (h2 : a ≠ 12) (h3 : a ≠ 13) (h4 : a ≠ 14) (h5 : a ≠ 17) (h6 : a ≠ 35) : cFl (cBg (cTk C)) a = C a := by
  unfold cFl cBg cTk
  rw [up_a h6, up_a h6, up_a h6, up_a h5, up_a h4, up_a h4, up_a h4, up_a h4, cpy_a h3, cpy_a h2, up_a h1]
theorem cF_11 (C : am_M) : cFl (cBg (cTk C)) 11 0 = C 8 0 := by
  unfold cFl cBg cTk
  rw [up_a (by decide), up_a (by decide), up_a (by decide), up_a (by decide), up_a (by decide), up_a (by decide), up_a (by decide), up_a (by decide), cpy_a (by decide), cpy_a (by decide), up_s]
theorem cF_12 (C : am_M) (j : Nat) : cFl (cBg (cTk C)) 12 j = if j < 12 then C 9 j else C 12 j := by
  unfold cFl cBg cTk
  rw [up_a (by decide), up_a (by decide), up_a (by decide), up_a (by decide), up_a (by decide), up_a (by decide), up_a (by decide), up_a (by decide), cpy_a (by decide), cpy_s, cpy_v, up_a (by decide), up_a (by decide)]
theorem cF_13 (C : am_M) (j : Nat) : cFl (cBg (cTk C)) 13 j = if j < 12 then C 10 j else C 13 j := by
  unfold cFl cBg cTk
  rw [up_a (by decide), up_a (by decide), up_a (by decide), up_a (by decide), up_a (by decide), up_a (by decide), up_a (by decide), up_a (by decide), cpy_s, cpy_v, cpy_a (by decide), up_a (by decide), cpy_a (by decide), up_a (by decide)]
theorem cT_7 (C : am_M) : cTk C 7 = C 7 := by
  unfold cTk
  rw [cpy_a (by decide), cpy_a (by decide), up_a (by decide)]
theorem cF_14 (C : am_M) : cFl (cBg (cTk C)) 14 0 = 0 ∧ cFl (cBg (cTk C)) 14 1 = C 7 1 ∧ cFl (cBg (cTk C)) 14 2 = C 7 2 ∧ cFl (cBg (cTk C)) 14 3 = C 7 3 := by
  unfold cFl cBg
  rw [up_a (by decide), up_a (by decide), up_a (by decide), up_a (by decide), cT_7]
  exact ⟨rfl, rfl, rfl, rfl⟩
theorem cF_17 (C : am_M) : cFl (cBg (cTk C)) 17 0 = C 7 1 ∧ ∀ j, j ≠ 0 → cFl (cBg (cTk C)) 17 j = C 17 j := by
  constructor
  · unfold cFl cBg
    rw [up_a (by decide), up_a (by decide), up_a (by decide), up_s, cT_7]
  · intro j hj
    unfold cFl cBg cTk
    rw [up_a (by decide), up_a (by decide), up_a (by decide), up_j hj, up_a (by decide), up_a (by decide), up_a (by decide), up_a (by decide), cpy_a (by decide), cpy_a (by decide), up_a (by decide)]
theorem eq_land {M : am_M} (I : Inv M) {t : Int} (ht : iR t) : Step (X_X8_land_0 t) (X_X9_land_53 t) M := gd_land I ht fun h1 h2 => by
  obtain ⟨t, rfl⟩ := Int.eq_ofNat_of_zero_le h1.1
  rw [Int.toNat_natCast] at h2
  have hb := I.2.2.1.2.1 t
  have c0 : X_X8_land_0 t M = (X_X5_read_7 t M).bind fun z3 => if wI z3.1 = (-9) then (X_X2_takeFrom_11_8 z3.2).bind fun z4 => (X_X1_begin_14 (z4.2 7 1) (z4.2 7 2) (z4.2 7 3) z4.2).bind fun z5 => (X_J7_fill_53178_35 (-1) z5.2).bind fun z6 => some (z6.2 11 0, z6.2) else some ((-4), z3.2) := by
    rw [X_X8_land_0, sp_isNumber_4 I.sh4 ht, b2_t h1, ob]
    dsimp +instances only
    rw [if_neg (by decide), sp_isThere_4 I.sh4 h1, Int.toNat_natCast, b2_t h2, ob]
    dsimp +instances only
    rw [if_neg (by decide)]
  have m0 : ∀ N : am_M, N 59 = M 59 → X_X9_land_53 t N = (X_X9_faultOf_53 t N).bind fun z2 => if wI z2.1 = (-9) then XL_X9_land_53_7 (XB_X9_land_53_9 (XL_X9_land_53_10 (XB_X9_land_53_12 (XL_X9_land_53_13 (XB_X9_land_53_15) 1000)) 1000)) 1000 0 (am_up z2.2 53 1 (z2.2 53 17)) else some ((-4), z2.2) := fun N hN => by
    have e59 : N 59 t = M 5 t := by rw [hN, I.2.2.1.1]
    rw [X_X9_land_53, XB_X9_land_53_e, sp_isText _ ht, b2_t h1, ob]
    dsimp +instances only
    rw [if_neg (by decide), wI_of (x := (t : Int)) (by omega) (by omega), if_pos (by omega), Int.toNat_natCast, e59, wI_of (x := M 5 t) (by omega) (by omega), if_neg (by omega)]
  obtain ⟨v, C', D0, a1, a2, a3⟩ := sim_two I.b (t := t) (by omega) h2
  have vr := a3.2.2.2.1
  have f59 : C' 59 = M 59 := a3.1 59 (by decide) (by decide) (by decide) (by decide)
  have f60 : C' 60 = M 60 := a3.1 60 (by decide) (by decide) (by decide) (by decide)
  rw [a1, ob] at c0
  dsimp +instances only at c0
  rw [wI_of (x := v) (by omega) (by omega)] at c0
  by_cases cv : v = -9
  · rw [if_pos cv] at c0
    have c1 : X_X8_land_0 t M = some (C' 8 0, cFl (cBg (cTk C'))) := by
      rw [c0, X_X2_takeFrom_11_8, ob]
      dsimp +instances only
      rw [X_X1_begin_14, ob]
      dsimp +instances only
      rw [sp_fill, ob]
      show some ((cFl (cBg (cTk C'))) 11 0, cFl (cBg (cTk C'))) = _
      rw [cF_11]
    obtain ⟨v2, C2, D', b1, b2', b3⟩ := sim_read I.b (N := cFl (cBg (cTk C'))) (t := t) (by omega) h2 ⟨by rw [cF_o (by decide) (by decide) (by decide) (by decide) (by decide) (by decide), f59], by rw [cF_o (by decide) (by decide) (by decide) (by decide) (by decide) (by decide), f60]⟩
    rw [a1] at b1
    obtain ⟨rfl, rfl⟩ : v = v2 ∧ C' = C2 := by
      injection b1 with b1
      injection b1 with e1 e2
      exact ⟨e1, e2⟩
    obtain ⟨o1, o2, ⟨b9, b10⟩, -, oL⟩ := b3
    obtain ⟨m, hm, l8, l17, lE, ⟨l630, l631, l632⟩, lb, lr0, lr1⟩ := oL cv
    have m1 := m0 (cFl (cBg (cTk C'))) (by rw [cF_o (by decide) (by decide) (by decide) (by decide) (by decide) (by decide), f59])
    rw [b2', ob] at m1
    dsimp +instances only at m1
    rw [wI_of (x := v) (by omega) (by omega), if_pos cv, l17] at m1
    obtain ⟨DA, hDA⟩ : ∃ DA, DA = am_up D' 53 1 (m : Int) := ⟨_, rfl⟩
    have e62 : DA 62 = D' 62 := by rw [hDA, up_a (by decide)]
    have e63 : DA 63 = D' 63 := by rw [hDA, up_a (by decide)]
    have e53 : DA 53 1 = (m : Int) := by rw [hDA, up_s]
    have dA : ∀ a, a ≠ 53 → a ≠ 62 → a ≠ 63 → DA a = cFl (cBg (cTk C')) a := fun a h1 h2 h3 => by rw [hDA, up_a h1, o2.1 a h1 h2 h3]
    have g := I.gM
    have k55 : DA 55 = M 55 := by rw [dA 55 (by decide) (by decide) (by decide), cF_o (by decide) (by decide) (by decide) (by decide) (by decide) (by decide), o1 55 (by decide) (by decide) (by decide) (by decide)]
    have k56 : DA 56 = M 56 := by rw [dA 56 (by decide) (by decide) (by decide), cF_o (by decide) (by decide) (by decide) (by decide) (by decide) (by decide), o1 56 (by decide) (by decide) (by decide) (by decide)]
    rw [← hDA] at m1
    obtain ⟨f, gg, p1, p2, p3⟩ := lp_l7 (XB_X9_land_53_9 (XL_X9_land_53_10 (XB_X9_land_53_12 (XL_X9_land_53_13 (XB_X9_land_53_15) 1000)) 1000)) (D := DA) (m := m) hm.2 e53 (fun j hj => by rw [e62, (lE j hj).1, (lE j hj).2]; exact ⟨b9 j, b10 j⟩) m 1000 0 (DA 55) (DA 56) (by omega) (by omega) (fun j hj => by omega) (fun j => by rw [k55, k56]; exact ⟨g.2.2.1 j, g.2.2.2 j⟩)
    rw [row_self, row_self, show ((0 : Nat) : Int) = 0 from rfl] at p1
    obtain ⟨X, hX⟩ : ∃ X, X = am_row (am_row DA 55 f) 56 gg := ⟨_, rfl⟩
    rw [← hX] at p1
    obtain ⟨L, q1, q2⟩ := lp_l10 (XB_X9_land_53_12 (XL_X9_land_53_13 (XB_X9_land_53_15) 1000)) X 121 1000 0 (X 54) (by omega) (by omega) (fun j hj => by omega)
    rw [row_self, show ((0 : Nat) : Int) = 0 from rfl] at q1
    obtain ⟨L', r1, z0, z1, z2, z3, zz, z120, zk1, zk2, zk3⟩ := sp_l12 X L q2
    have mE : X_X9_land_53 t (cFl (cBg (cTk C'))) = some (X 53 1, am_row X 54 L') := by
      rw [m1, p1, XB_X9_land_53_9, q1, r1]
    have x53 : X 53 = DA 53 := by rw [hX, row_a (by decide), row_a (by decide)]
    have x63 : X 63 = DA 63 := by rw [hX, row_a (by decide), row_a (by decide)]
    have nF : ∀ a, a ≠ 53 → a ≠ 54 → a ≠ 55 → a ≠ 56 → a ≠ 62 → a ≠ 63 → am_row X 54 L' a = cFl (cBg (cTk C')) a := fun a h1 h2 h3 h4 h5 h6 => by rw [row_a h2, hX, row_a h4, row_a h3, dA a h1 h5 h6]
    have n55 : am_row X 54 L' 55 = f := by rw [row_a (by decide), hX, row_a (by decide), row_s]
    have n56 : am_row X 54 L' 56 = gg := by rw [row_a (by decide), hX, row_s]
    have n54 : am_row X 54 L' 54 = L' := row_s
    have g11 := I.g11
    have h17 := cF_17 C'
    have h14 := cF_14 C'
    have i17 : ∀ j, 0 ≤ M 17 j ∧ M 17 j ≤ 12 := I.2.2.2.2.1.2.2.1.2.2.1
    refine ⟨_, _, _, _, c1, mE, ?_, ?_⟩
    · rw [x53, e53, l8]
    · refine inv_land I (m := m) (b := C' 7 1) (r0 := C' 7 2) (r1 := C' 7 3) (fun a ha => ?_) (fun j hj => ?_) hm ?_ ?_ ?_ ?_ ?_ ?_ ?_ ?_ ?_ ?_ ?_ ?_ ?_ lb lr0 lr1 ?_ ?_ ?_ ?_ ?_ ?_ ?_ ?_ ?_ ?_
      · rw [nF a (by omega) (by omega) (by omega) (by omega) (by omega) (by omega), cF_o (by omega) (by omega) (by omega) (by omega) (by omega) (by omega), o1 a (by omega) (by omega) (by omega) (by omega)]
      · rw [row_a (by decide), x53, hDA, up_j (by omega), o2.2 j (Or.inr hj), cF_o (by decide) (by decide) (by decide) (by decide) (by decide) (by decide), o1 53 (by decide) (by decide) (by decide) (by decide)]
      · rw [nF 11 (by decide) (by decide) (by decide) (by decide) (by decide) (by decide), cF_11, l8]
      · rw [row_a (by decide), x53, e53]
      · rw [nF 9 (by decide) (by decide) (by decide) (by decide) (by decide) (by decide), cF_o (by decide) (by decide) (by decide) (by decide) (by decide) (by decide)]; exact b9
      · rw [nF 10 (by decide) (by decide) (by decide) (by decide) (by decide) (by decide), cF_o (by decide) (by decide) (by decide) (by decide) (by decide) (by decide)]; exact b10
      · intro i
        rw [nF 12 (by decide) (by decide) (by decide) (by decide) (by decide) (by decide), cF_12]
        split
        · exact b9 i
        · rw [o1 12 (by decide) (by decide) (by decide) (by decide)]; exact g11.2.2.1 i
      · intro i
        rw [nF 13 (by decide) (by decide) (by decide) (by decide) (by decide) (by decide), cF_13]
        split
        · exact b10 i
        · rw [o1 13 (by decide) (by decide) (by decide) (by decide)]; exact g11.2.2.2 i
      · rw [n55]; exact fun i => (p3 i).1
      · rw [n56]; exact fun i => (p3 i).2
      · intro i hi
        rw [n55, n56, nF 12 (by decide) (by decide) (by decide) (by decide) (by decide) (by decide), nF 13 (by decide) (by decide) (by decide) (by decide) (by decide) (by decide), cF_12, cF_13, if_pos (by omega), if_pos (by omega), (p2 i hi).1, (p2 i hi).2, e62, (lE i hi).1, (lE i hi).2]
        exact ⟨rfl, rfl⟩
      · rw [nF 14 (by decide) (by decide) (by decide) (by decide) (by decide) (by decide)]; exact h14.1
      · rw [nF 14 (by decide) (by decide) (by decide) (by decide) (by decide) (by decide)]; exact h14.2.1
      · rw [nF 14 (by decide) (by decide) (by decide) (by decide) (by decide) (by decide)]; exact h14.2.2.1
      · rw [nF 14 (by decide) (by decide) (by decide) (by decide) (by decide) (by decide)]; exact h14.2.2.2
      · rw [nF 17 (by decide) (by decide) (by decide) (by decide) (by decide) (by decide)]; exact h17.1
      · intro i
        rw [nF 17 (by decide) (by decide) (by decide) (by decide) (by decide) (by decide)]
        by_cases c : i = 0
        · rw [c, h17.1]; omega
        · rw [h17.2 i c, o1 17 (by decide) (by decide) (by decide) (by decide)]; exact i17 i
      · rw [nF 35 (by decide) (by decide) (by decide) (by decide) (by decide) (by decide)]
        unfold cFl
        exact ⟨rfl, rfl, rfl⟩
      · rw [n54]; exact z0
      · rw [n54, z1, x63, e63, l630]
      · rw [n54, z2, x63, e63, l631]
      · rw [n54, z3, x63, e63, l632]
      · rw [n54]; exact zz
      · rw [n54, z120, x63, e63, l630]
      · rw [n54]; exact ⟨zk1, zk2, zk3⟩
  · rw [if_neg cv] at c0
    have m1 := m0 C' f59
    rw [a2, ob] at m1
    dsimp +instances only at m1
    rw [wI_of (x := v) (by omega) (by omega), if_neg cv] at m1
    exact ⟨_, _, _, _, c0, m1, rfl, Kp.inv (inv_910 I a3.2.2.1.1 a3.2.2.1.2) a3.k⟩
