/-! What a strip pays by a row of moves. -/
theorem c_tax {d : Int} (hd : 0 ≤ d ∧ d < 1000) (M : am_M) : X_X1_isTaxDay d M = some (b2 (d % 10 = 9 ∧ d < 40), M) := by
  obtain ⟨n, rfl⟩ := Int.eq_ofNat_of_zero_le hd.1
  rw [sp_isTaxDay n (by omega), b2_c (p := n < 40 ∧ n % 10 = 9) (q := (n : Int) % 10 = 9 ∧ (n : Int) < 40) (by omega)]
theorem lp_tolls (k : am_M → am_Rs) {N : am_M} (F : Nat → Int) (v : Int) (hP : ∀ (f : Nat → Int) (p : Nat), p < 13 → X_X1_dueOfBoth_14_11 v p (am_row N 37 f) = some (F p, am_row N 37 f)) : ∀ (e n i : Nat) (f : Nat → Int), i + e = 13 → e < n → XL_X4_tollOfStrip_36_1 k n v i (am_row N 37 f) = k (am_row N 37 fun j => if i ≤ j ∧ j < 13 then F j else f j) := by
  intro e
  induction e with
  | zero =>
    intro n i f hi hn
    obtain ⟨n, rfl⟩ : ∃ m, n = m + 1 := ⟨n - 1, by omega⟩
    rw [XL_X4_tollOfStrip_36_1, XB_X4_tollOfStrip_36_1, wI_of (x := (i : Int)) (by omega) (by omega), if_neg (by omega)]
    refine congrArg (fun F => k (am_row N 37 F)) (funext fun j => ?_)
    rw [if_neg (by omega)]
  | succ e ih =>
    intro n i f hi hn
    obtain ⟨n, rfl⟩ : ∃ m, n = m + 1 := ⟨n - 1, by omega⟩
    rw [XL_X4_tollOfStrip_36_1, XB_X4_tollOfStrip_36_1, wI_of (x := (i : Int)) (by omega) (by omega), if_pos (by omega), hP f i (by omega), ob]
    dsimp +instances only
    rw [if_pos (by omega), Int.toNat_natCast, up_row, row_row, ← Int.natCast_succ, ih n (i + 1) _ (by omega) (by omega)]
    refine congrArg (fun F => k (am_row N 37 F)) (funext fun j => ?_)
    rw [row_s]
    by_cases c : j = i
    · subst c; rw [if_neg (by omega), if_pos rfl, if_pos (by omega)]
    · by_cases c2 : i + 1 ≤ j ∧ j < 13
      · rw [if_pos c2, if_pos (by omega)]
      · rw [if_neg c2, if_neg c, if_neg (by omega)]
noncomputable def db_ (M : am_M) (i b : Int) : Int := du_ M 0 i b + du_ M 1 i b
theorem db_r {M : am_M} (I : Ib M) (i b : Int) : 0 ≤ db_ M i b ∧ db_ M i b ≤ 324 := by
  have h1 := du_r I 0 i b
  have h2 := du_r I 1 i b
  unfold db_
  omega
theorem sp_tolls {M : am_M} (I : Ib M) {i : Int} (hi : 0 ≤ i ∧ i < M 11 0) : ∃ f, X_X4_tollOfStrip_36 i M = some (0, am_row M 37 f) ∧ ∀ p : Nat, p < 13 → f p = db_ M i p := by
  have := lp_tolls XB_X4_tollOfStrip_36_3 (N := M) (fun p => db_ M i p) i (fun f p hp => by
    have B : Ib (am_row M 37 f) := Kb.ib I (Kp.row (by decide)).b
    exact c_both B hi (by omega)) 13 1000 0 (M 37) (by omega) (by omega)
  rw [row_self, show ((0 : Nat) : Int) = 0 from rfl] at this
  refine ⟨fun j => if 0 ≤ j ∧ j < 13 then db_ M i j else M 37 j, ?_, fun p hp => ?_⟩
  · rw [X_X4_tollOfStrip_36, XB_X4_tollOfStrip_36_e, this]; rfl
  · exact if_pos (by omega)
/-- dues along a row of moves -/
noncomputable def wP (f : Nat → Int) (D : Int → Int) (d : Int) : Nat → Nat → Int → Int → Int
  | 0, _, _, a => a
  | e + 1, i, b, a => wP f D d e (i + 1) (b + f i) (a + (if (d + i) % 10 = 9 ∧ d + i < 40 then D (b + f i) else 0))
theorem c_tollAt {M : am_M} {D : Int → Int} (hD : ∀ p : Nat, p < 13 → M 37 p = D p) {b d : Int} (hb : 0 ≤ b ∧ b ≤ 12) (hd : 0 ≤ d ∧ d < 1000) : X_X4_tollAt_36 b d M = some (if d % 10 = 9 ∧ d < 40 then D b else 0, M) := by
  obtain ⟨n, rfl⟩ := Int.eq_ofNat_of_zero_le hb.1
  rw [X_X4_tollAt_36, wI_of (x := (n : Int)) (by omega) (by omega), if_neg (by omega), if_pos (by omega), c_tax hd, ob]
  dsimp +instances only
  by_cases c : d % 10 = 9 ∧ d < 40
  · rw [if_neg (show ¬ wI (b2 (d % 10 = 9 ∧ d < 40)) = 0 by rw [b2_t c]; decide), if_pos (by omega), if_pos c, Int.toNat_natCast, hD n (by omega)]
  · rw [if_pos (show wI (b2 (d % 10 = 9 ∧ d < 40)) = 0 by rw [b2_f c]; rfl), if_neg c]
theorem lp_tollsOf (k : Int → am_M → am_Rs) {M : am_M} (I : Ib M) {r : Nat} (hr : r < 6) {D : Int → Int} (hD : ∀ p : Nat, p < 13 → M 37 p = D p) : ∀ (e n i : Nat) (b a : Int), (0 ≤ b ∧ b ≤ M 11 0) → (i : Int) + e = M 2 r → e < n → (∀ j, i ≤ j → j < i + e → wm_ M r j) → wF (mv_ M) (rw_ M r) (M 14 0) e i b = i + e → XL_X4_tollsOf_36_1_1 k n r a b i M = k (wP (rw_ M r) D (M 14 0) e i b a) M
  | 0, n + 1, i, b, a, hb, hi, hn, h, hw => by
    have hs := I.2.1.2.1 r
    rw [XL_X4_tollsOf_36_1_1, XB_X4_tollsOf_36_1_1, c_size I hr, ob]
    dsimp +instances only
    rw [wI_of (x := (i : Int)) (by omega) (by omega), wI_of (x := M 2 r) (by omega) (by omega), if_neg (by omega), wP]
  | e + 1, n + 1, i, b, a, hb, hi, hn, h, hw => by
    have hs := I.2.1.2.1 r
    have r0 := I.r0
    have rs := I.rs
    have q := h i (by omega) (by omega)
    unfold wm_ at q
    rw [wF] at hw
    have c : ¬ mv_ M b (rw_ M r i) (M 14 0 + i) = -1 := fun c => by rw [if_pos c] at hw; omega
    rw [if_neg c] at hw
    have hb' := mv_in (M := M) (d := M 14 0 + i) (m := rw_ M r i) (by omega) hb c
    rw [XL_X4_tollsOf_36_1_1, XB_X4_tollsOf_36_1_1, c_size I hr, ob]
    dsimp +instances only
    rw [wI_of (x := (i : Int)) (by omega) (by omega), wI_of (x := M 2 r) (by omega) (by omega), if_pos (by omega), c_get I hr (by omega), ob]
    dsimp only
    rw [c_tollAt hD (by omega) (by omega), ob, wP]
    exact lp_tollsOf k I hr hD e n (i + 1) (b + rw_ M r i) _ hb' (by push_cast; omega) (by omega) (fun j h1 h2 => h j (by omega) (by omega)) (by omega)
theorem m_paysOn {M : am_M} (I : Ib M) {i d b : Int} (hi : 0 ≤ i ∧ i < M 11 0) (hd : 0 ≤ d ∧ d < 1000) (hb : 0 ≤ b ∧ b ≤ 12) : X_X9_paysOn_53 i d b M = some (if d % 10 = 9 ∧ d < 40 then db_ M i b else 0, M) := by
  rw [X_X9_paysOn_53, sp_isTaxed M hd, ob]
  dsimp +instances only
  by_cases c : d % 10 = 9 ∧ d < 40
  · rw [if_neg (show ¬ wI (b2 (d % 10 = 9 ∧ d < 40)) = 0 by rw [b2_t c]; decide), m_both I hi hb, if_pos c]; rfl
  · rw [if_pos (show wI (b2 (d % 10 = 9 ∧ d < 40)) = 0 by rw [b2_f c]; rfl), if_neg c]
theorem lp_paysM (k : Int → am_M → am_Rs) {M : am_M} (I : Ib M) {r : Nat} (hr : r < 6) {v : Int} (hv : 0 ≤ v ∧ v < M 11 0) : ∀ (e n i : Nat) (b a : Int), (0 ≤ b ∧ b ≤ M 11 0) → (i : Int) + e = M 2 r → e < n → (∀ j, i ≤ j → j < i + e → wm_ M r j) → wF (mv_ M) (rw_ M r) (M 14 0) e i b = i + e → XL_X9_pays_53_9 k n v r b a i M = k (wP (rw_ M r) (db_ M v) (M 14 0) e i b a) M
  | 0, n + 1, i, b, a, hb, hi, hn, h, hw => by
    have hs := I.2.1.2.1 r
    rw [XL_X9_pays_53_9, XB_X9_pays_53_9, wI_of (x := (r : Int)) (by omega) (by omega), if_pos (by omega), Int.toNat_natCast, I.2.1.1, wI_of (x := (i : Int)) (by omega) (by omega), wI_of (x := M 2 r) (by omega) (by omega), if_neg (by omega), wP]
  | e + 1, n + 1, i, b, a, hb, hi, hn, h, hw => by
    have hs := I.2.1.2.1 r
    have r0 := I.r0
    have rs := I.rs
    have q := h i (by omega) (by omega)
    unfold wm_ at q
    rw [wF] at hw
    have c : ¬ mv_ M b (rw_ M r i) (M 14 0 + i) = -1 := fun c => by rw [if_pos c] at hw; omega
    rw [if_neg c] at hw
    have hb' := mv_in (M := M) (d := M 14 0 + i) (m := rw_ M r i) (by omega) hb c
    have e1 : ∀ _ : Unit, wI (40 * (r : Int) + i) = ((40 * r + i : Nat) : Int) := fun _ => by rw [wI_of (by omega) (by omega)]; push_cast; omega
    rw [XL_X9_pays_53_9, XB_X9_pays_53_9, wI_of (x := (r : Int)) (by omega) (by omega), if_pos (by omega), Int.toNat_natCast, I.2.1.1, wI_of (x := (i : Int)) (by omega) (by omega), wI_of (x := M 2 r) (by omega) (by omega), if_pos (by omega), e1 (), Int.toNat_natCast, if_pos (by omega), m_row I hr (by omega), I.d0, m_paysOn I hv (by omega) (by omega), ob, wP]
    exact lp_paysM k I hr hv e n (i + 1) (b + rw_ M r i) _ hb' (by push_cast; omega) (by omega) (fun j h1 h2 => h j (by omega) (by omega)) (by omega)
theorem eq_pays {M : am_M} (I : Inv M) {i r : Int} (hi : iR i) (hr : iR r) : Step (X_X8_pays_0 i r) (X_X9_pays_53 i r) M := gd_pays I hi hr fun h1 h2 h3 => by
  obtain ⟨q, rfl⟩ := Int.eq_ofNat_of_zero_le h2.1
  rw [Int.toNat_natCast] at h3
  have hq : q < 6 := by omega
  have hs := I.2.1.2.1 q
  have rs := I.rs
  have es := I.es
  have fr := wF_r (mv_ M) (rw_ M q) (M 14 0) (M 2 q).toNat 0 (M 14 1)
  have cS : X_X8_pays_0 i q M = (X_X8_canGo_0 q M).bind fun z4 => if wI z4.1 = 0 then (X_X8_find_0 3 z4.2).bind fun z5 => some (z5.1, z5.2) else (X_X4_tollOfStrip_36 i z4.2).bind fun z5 => (X_X4_tollsOf_36_1 q z5.2).bind fun z6 => some (z6.1, z6.2) := by
    rw [X_X8_pays_0, sp_has_11 I.g11 hi, b2_t h1, ob]
    dsimp +instances only
    rw [if_neg (by decide), sp_isNumber_1 I.sh1 hr, b2_t h2, ob]
    dsimp +instances only
    rw [if_neg (by decide), sp_isThere_1 I.sh1 h2, Int.toNat_natCast, b2_t h3, ob]
    dsimp +instances only
    rw [if_neg (by decide)]
  have mS : ∀ N : am_M, N 53 1 = M 53 1 → N 57 = M 57 → X_X9_pays_53 i q N = (X_X9_areMoves_53 q N).bind fun z2 => if wI z2.1 = 0 then (X_X9_find_53 3 z2.2).bind fun z3 => some (z3.1, z3.2) else (X_X9_goAlong_53 q z2.2).bind fun z3 => if wI z3.1 < wI (z3.2 57 q) then (X_X9_find_53 3 z3.2).bind fun z4 => some (z4.1, z4.2) else XL_X9_pays_53_9 XB_X9_pays_53_11 1000 i q (z3.2 54 1) 0 0 z3.2 := by
    intro N n1 n2
    rw [X_X9_pays_53, XB_X9_pays_53_e, sp_isStrip (by rw [n1, es]; exact rs) hi, n1, es, b2_t h1, ob]
    dsimp +instances only
    rw [if_neg (by decide), sp_isRow _ hr, b2_t h2, ob]
    dsimp +instances only
    rw [if_neg (by decide), wI_of (x := (q : Int)) (by omega) (by omega), if_pos (by omega), Int.toNat_natCast, n2, I.2.1.1, wI_of (x := M 2 q) (by omega) (by omega), if_neg (by omega)]
    simp only [if_pos (show 0 ≤ (q : Int) ∧ (q : Int) < 6 by omega)]
  by_cases c : cg_ M q
  · obtain ⟨f, t1, t2⟩ := sp_tolls I.b h1
    have B : Ib (am_row M 37 f) := Kb.ib I.b (Kp.row (by decide)).b
    have I2 : Inv (am_row M 37 f) := Kp.inv I (Kp.row (by decide))
    have hw : wF (mv_ M) (rw_ M q) (M 14 0) (M 2 q).toNat 0 (M 14 1) = 0 + (M 2 q).toNat := by have := c.2; omega
    have l1 : XL_X4_tollsOf_36_1_1 XB_X4_tollsOf_36_1_3 1000 q 0 (M 14 1) 0 (am_row M 37 f) = XB_X4_tollsOf_36_1_3 (wP (rw_ M q) (db_ M i) (M 14 0) (M 2 q).toNat 0 (M 14 1) 0) (am_row M 37 f) := lp_tollsOf XB_X4_tollsOf_36_1_3 B hq (D := db_ M i) (fun p hp => by rw [row_s]; exact t2 p hp) (M 2 q).toNat 1000 0 (M 14 1) 0 I.r1 (show ((0 : Nat) : Int) + _ = M 2 q by omega) (by omega) (fun j _ h2 => c.1 j (by omega)) hw
    have hc : X_X8_pays_0 i q M = some (wP (rw_ M q) (db_ M i) (M 14 0) (M 2 q).toNat 0 (M 14 1) 0, am_row M 37 f) := by
      rw [cS, (sp_canGo I.b hq h3).1 c, ob]
      dsimp +instances only
      rw [if_neg (by decide), t1, ob]
      dsimp +instances only
      rw [X_X4_tollsOf_36_1, XB_X4_tollsOf_36_1_e, show (am_row M 37 f) 14 1 = M 14 1 from rfl, l1]; rfl
    have e2 := sp_alongN B (Kp.row (f := f) (a := 37) (M := M) (by decide)).b hq h3 c.1
    obtain ⟨G, hG⟩ : ∃ G, G = gB (am_row M 37 f) (wB_ (mv_ M) (rw_ M q) (M 14 0) (M 2 q).toNat 0 (M 14 1)) (wR (mv_ M) (rw_ M q) (M 14 0) (M 2 q).toNat 0 (M 14 1) 0) := ⟨_, rfl⟩
    rw [← hG] at e2
    have kG : Kp (am_row M 37 f) G := by rw [hG]; exact gB_K _ _ _
    have kG2 : Kp M G := Kp.tr (Kp.row (by decide)) kG
    have g57 : G 57 = M 57 := kG2.1 57 (by decide)
    have g54 : G 54 1 = M 14 1 := by rw [kG2.2.2 1 (by decide), I.d1]
    have BG : Ib G := Kb.ib I.b kG2.b
    have q11 : G 11 = M 11 := kG2.1 11 (by decide)
    have q12 : G 12 = M 12 := kG2.1 12 (by decide)
    have q13 : G 13 = M 13 := kG2.1 13 (by decide)
    have q14 : G 14 = M 14 := kG2.1 14 (by decide)
    have q2 : G 2 = M 2 := kG2.1 2 (by decide)
    have q3 : G 3 = M 3 := kG2.1 3 (by decide)
    have qm : mv_ G = mv_ M := by funext b m d; unfold mv_; rw [q11, q12]
    have qr : rw_ G q = rw_ M q := by funext j; unfold rw_; rw [q3]
    have qd : db_ G i = db_ M i := by funext b; unfold db_ du_; rw [q12, q13, q14]
    have l2 := lp_paysM XB_X9_pays_53_11 BG hq (v := i) (by rw [q11]; exact h1) (M 2 q).toNat 1000 0 (M 14 1) 0 (by rw [q11]; exact I.r1) (by rw [q2]; omega) (by omega) (fun j _ h2 => by unfold wm_; rw [qr]; exact c.1 j (by omega)) (by rw [qm, qr, q14]; exact hw)
    rw [qr, qd, q14, show ((0 : Nat) : Int) = 0 from rfl] at l2
    have hm : X_X9_pays_53 i q (am_row M 37 f) = some (wP (rw_ M q) (db_ M i) (M 14 0) (M 2 q).toNat 0 (M 14 1) 0, G) := by
      rw [mS (am_row M 37 f) rfl rfl, (sp_areMovesN B (Kp.row (f := f) (a := 37) (M := M) (by decide)).b hq h3).1 c.1, ob]
      dsimp +instances only
      rw [if_neg (by decide), e2, ob]
      dsimp +instances only
      rw [g57, I.2.1.1, c.2, if_neg (Int.lt_irrefl _), g54, l2]; rfl
    exact st_kp I hc (Kp.row (by decide)) hm kG rfl
  · have hc : X_X8_pays_0 i q M = some (-3, cF 3 M) := by
      rw [cS, (sp_canGo I.b hq h3).2 c, ob]
      dsimp +instances only
      rw [if_pos wI_0, f_c3, ob]
    have B : Ib (cF 3 M) := Kb.ib I.b (Kb.cf M 3)
    by_cases c1 : ∀ j : Nat, (j : Int) < M 2 q → wm_ M q j
    · have c2 : (wF (mv_ M) (rw_ M q) (M 14 0) (M 2 q).toNat 0 (M 14 1) : Int) ≠ M 2 q := fun h => c ⟨c1, h⟩
      have e2 := sp_alongN B (Kb.cf M 3) hq h3 c1
      have hm : X_X9_pays_53 i q (cF 3 M) = some (-3, mF 3 (gB (cF 3 M) (wB_ (mv_ M) (rw_ M q) (M 14 0) (M 2 q).toNat 0 (M 14 1)) (wR (mv_ M) (rw_ M q) (M 14 0) (M 2 q).toNat 0 (M 14 1) 0))) := by
        rw [mS (cF 3 M) rfl rfl, (sp_areMovesN B (Kb.cf M 3) hq h3).1 c1, ob]
        dsimp +instances only
        rw [if_neg (by decide), e2, ob]
        dsimp +instances only
        rw [gB_a (by decide), show (cF 3 M) 57 q = M 2 q by (show M 57 q = M 2 q; rw [I.2.1.1]), wI_of (x := (wF (mv_ M) (rw_ M q) (M 14 0) (M 2 q).toNat 0 (M 14 1) : Int)) (by omega) (by omega), wI_of (x := M 2 q) (by omega) (by omega), if_pos (by omega), f_m3, ob]
      exact ⟨_, _, _, _, hc, hm, rfl, inv_find2 I _ _⟩
    · refine st_find I hc ?_
      rw [mS (cF 3 M) rfl rfl, (sp_areMovesN B (Kb.cf M 3) hq h3).2 c1, ob]
      dsimp +instances only
      rw [if_pos wI_0, f_m3, ob]
