/-! Rows of moves: judged, their rudeness, what a strip pays by them. -/
noncomputable def rw_ (M : am_M) (r : Nat) (j : Nat) : Int := M 3 (40 * r + j)
theorem c_size {M : am_M} (I : Ib M) {r : Nat} (hr : r < 6) : X_X6_sizeOf_1 r M = some (M 2 r, M) := by
  rw [sp_sizeOf_1 I.sh1 (by unfold iR; omega), if_pos (by omega), Int.toNat_natCast]
theorem c_get {M : am_M} (I : Ib M) {r i : Nat} (hr : r < 6) (hi : (i : Int) < M 2 r) : X_X6_get_1 r i M = some (rw_ M r i, M) := by
  have := I.2.1.2.1 r
  rw [sp_get_1 I.sh1 (by omega) (by unfold iR; omega), Int.toNat_natCast, if_pos (by omega), show ((40 : Int) * r + i).toNat = 40 * r + i by omega]; rfl
theorem m_row {M : am_M} (I : Ib M) {r i : Nat} (hr : r < 6) (hi : (i : Int) < M 2 r) : M 58 (40 * r + i) = rw_ M r i := I.2.1.2.2.2 r i hr hi
theorem rw_R {M : am_M} (I : Ib M) (r i : Nat) : iR (rw_ M r i) := I.2.1.2.2.1 _
noncomputable def wm_ (M : am_M) (r j : Nat) : Prop := -1 ≤ rw_ M r j ∧ rw_ M r j ≤ 1
theorem lp_all1 (k4 k6 : am_M → am_Rs) {M : am_M} (I : Ib M) {r : Nat} (hr : r < 6) : ∀ (e n i : Nat), (i : Int) + e = M 2 r → e < n → (∀ j, i ≤ j → j < i + e → wm_ M r j) → XL_X6_isAllWithin_1_1 k4 k6 n r (-1) 1 i M = k6 M
  | 0, n + 1, i, hi, hn, h => by
    have hs := I.2.1.2.1 r
    rw [XL_X6_isAllWithin_1_1, XB_X6_isAllWithin_1_1, c_size I hr, ob]
    dsimp +instances only
    rw [wI_of (x := (i : Int)) (by omega) (by omega), wI_of (x := M 2 r) (by omega) (by omega), if_neg (by omega)]
  | e + 1, n + 1, i, hi, hn, h => by
    have hs := I.2.1.2.1 r
    have q := h i (by omega) (by omega)
    unfold wm_ at q
    have ih := lp_all1 k4 k6 I hr e n (i + 1) (by push_cast; omega) (by omega) (fun j h1 h2 => h j (by omega) (by omega))
    rw [XL_X6_isAllWithin_1_1, XB_X6_isAllWithin_1_1, c_size I hr, ob]
    dsimp +instances only
    rw [wI_of (x := (i : Int)) (by omega) (by omega), wI_of (x := M 2 r) (by omega) (by omega), if_pos (by omega), c_get I hr (by omega), ob]
    dsimp +instances only
    rw [wI_of (x := rw_ M r i) (by omega) (by omega), wm1, w1, if_neg (by omega), if_neg (by omega)]
    exact ih
theorem lp_all0 (k4 k6 : am_M → am_Rs) {M : am_M} (I : Ib M) {r : Nat} (hr : r < 6) : ∀ (e n i : Nat), (i : Int) + e = M 2 r → e < n → (∃ j, i ≤ j ∧ j < i + e ∧ ¬ wm_ M r j) → XL_X6_isAllWithin_1_1 k4 k6 n r (-1) 1 i M = k4 M
  | 0, n + 1, i, hi, hn, h => by obtain ⟨j, h1, h2, -⟩ := h; omega
  | e + 1, n + 1, i, hi, hn, h => by
    have hs := I.2.1.2.1 r
    rw [XL_X6_isAllWithin_1_1, XB_X6_isAllWithin_1_1, c_size I hr, ob]
    dsimp +instances only
    rw [wI_of (x := (i : Int)) (by omega) (by omega), wI_of (x := M 2 r) (by omega) (by omega), if_pos (by omega), c_get I hr (by omega), ob]
    dsimp +instances only
    rw [wI_R (rw_R I r i), wm1, w1]
    by_cases c : wm_ M r i
    · have q := c
      unfold wm_ at q
      have ih := lp_all0 k4 k6 I hr e n (i + 1) (by push_cast; omega) (by omega) (by
        obtain ⟨j, h1, h2, h3⟩ := h
        refine ⟨j, ?_, by omega, h3⟩
        rcases Nat.lt_or_eq_of_le h1 with h4 | h4
        · exact h4
        · subst h4; exact absurd c h3)
      rw [if_neg (by omega), if_neg (by omega)]
      exact ih
    · unfold wm_ at c
      by_cases c2 : rw_ M r i < -1
      · rw [if_pos c2]
      · rw [if_neg c2, if_pos (by omega)]
theorem sp_within {M : am_M} (I : Ib M) {r : Nat} (hr : r < 6) (h0 : 0 ≤ M 2 r) : ((∀ j : Nat, (j : Int) < M 2 r → wm_ M r j) → X_X6_isAllWithin_1 r (-1) 1 M = some (1, M)) ∧ (¬ (∀ j : Nat, (j : Int) < M 2 r → wm_ M r j) → X_X6_isAllWithin_1 r (-1) 1 M = some (0, M)) := by
  have hs := I.2.1.2.1 r
  rw [X_X6_isAllWithin_1, XB_X6_isAllWithin_1_e]
  constructor
  · intro h
    have := lp_all1 XB_X6_isAllWithin_1_4 XB_X6_isAllWithin_1_6 I hr (M 2 r).toNat 1000 0 (by omega) (by omega) (fun j _ h2 => h j (by omega))
    rw [show ((0 : Nat) : Int) = 0 from rfl] at this
    rw [this]; rfl
  · intro h
    have := lp_all0 XB_X6_isAllWithin_1_4 XB_X6_isAllWithin_1_6 I hr (M 2 r).toNat 1000 0 (by omega) (by omega) (by
      obtain ⟨j, hj⟩ := Classical.not_forall.mp h
      obtain ⟨h1, h2⟩ := Classical.not_imp.mp hj
      exact ⟨j, by omega, by omega, h2⟩)
    rw [show ((0 : Nat) : Int) = 0 from rfl] at this
    rw [this]; rfl
theorem lp_am (k : Int → am_M → am_Rs) {M : am_M} (I : Ib M) {r : Nat} (hr : r < 6) : ∀ (e n i : Nat) (v : Int), (v = 0 ∨ v = 1) → (i : Int) + e = M 2 r → e < n → ((v = 1 ∧ ∀ j, i ≤ j → j < i + e → wm_ M r j) → XL_X9_areMoves_53_1 k n r v i M = k 1 M) ∧ (¬ (v = 1 ∧ ∀ j, i ≤ j → j < i + e → wm_ M r j) → XL_X9_areMoves_53_1 k n r v i M = k 0 M)
  | 0, n + 1, i, v, hv, hi, hn => by
    have hs := I.2.1.2.1 r
    have e0 : XL_X9_areMoves_53_1 k (n + 1) r v i M = k v M := by
      rw [XL_X9_areMoves_53_1, XB_X9_areMoves_53_1, wI_of (x := (r : Int)) (by omega) (by omega), if_pos (by omega), Int.toNat_natCast, I.2.1.1, wI_of (x := (i : Int)) (by omega) (by omega), wI_of (x := M 2 r) (by omega) (by omega), if_neg (by omega)]
    rw [e0]
    constructor
    · intro h; rw [h.1]
    · intro h
      rcases hv with rfl | rfl
      · rfl
      · exact absurd ⟨rfl, fun j h1 h2 => by omega⟩ h
  | e + 1, n + 1, i, v, hv, hi, hn => by
    have hs := I.2.1.2.1 r
    have e1 : ∀ _ : Unit, wI (40 * (r : Int) + i) = ((40 * r + i : Nat) : Int) := fun _ => by rw [wI_of (by omega) (by omega)]; push_cast; omega
    have st : XL_X9_areMoves_53_1 k (n + 1) r v i M = if wI v = 0 then XL_X9_areMoves_53_1 k n r 0 ((i + 1 : Nat) : Int) M else XL_X9_areMoves_53_1 k n r (b2 (-1 ≤ rw_ M r i ∧ rw_ M r i ≤ 1)) ((i + 1 : Nat) : Int) M := by
      rw [XL_X9_areMoves_53_1, XB_X9_areMoves_53_1, wI_of (x := (r : Int)) (by omega) (by omega), if_pos (by omega), Int.toNat_natCast, I.2.1.1, wI_of (x := (i : Int)) (by omega) (by omega), wI_of (x := M 2 r) (by omega) (by omega), if_pos (by omega), e1 (), Int.toNat_natCast, m_row I hr (by omega), wI_R (rw_R I r i), sp_in M (rw_R I r i) (by unfold iR; omega) i1, ob]
      dsimp +instances only
      by_cases cv : wI v = 0
      · rw [if_pos cv, if_pos cv]; rfl
      · rw [if_neg cv, if_neg cv, if_pos (by omega)]
        by_cases cw : -1 ≤ rw_ M r i ∧ rw_ M r i ≤ 1
        · rw [if_neg (show ¬ wI (b2 (-1 ≤ rw_ M r i ∧ rw_ M r i ≤ 1)) = 0 by rw [b2_t cw]; decide), b2_t cw]; rfl
        · rw [if_pos (show wI (b2 (-1 ≤ rw_ M r i ∧ rw_ M r i ≤ 1)) = 0 by rw [b2_f cw]; rfl), b2_f cw]; rfl
    rw [st]
    rcases hv with rfl | rfl
    · rw [if_pos wI_0]
      have ih := lp_am k I hr e n (i + 1) 0 (Or.inl rfl) (by push_cast; omega) (by omega)
      have := ih.2 (fun q => absurd q.1 (by decide))
      exact ⟨fun q => absurd q.1 (by decide), fun _ => this⟩
    · rw [if_neg (by decide)]
      by_cases cw : -1 ≤ rw_ M r i ∧ rw_ M r i ≤ 1
      · rw [b2_t cw]
        have ih := lp_am k I hr e n (i + 1) 1 (Or.inr rfl) (by push_cast; omega) (by omega)
        constructor
        · intro q
          exact ih.1 ⟨rfl, fun j h1 h2 => q.2 j (by omega) (by omega)⟩
        · intro q
          refine ih.2 (fun q2 => q ⟨rfl, fun j h1 h2 => ?_⟩)
          rcases Nat.lt_or_eq_of_le h1 with h4 | h4
          · exact q2.2 j (by omega) (by omega)
          · subst h4; exact cw
      · rw [b2_f cw]
        have ih := lp_am k I hr e n (i + 1) 0 (Or.inl rfl) (by push_cast; omega) (by omega)
        have := ih.2 (fun q => absurd q.1 (by decide))
        exact ⟨fun q => absurd (q.2 i (by omega) (by omega)) cw, fun _ => this⟩
theorem sp_areMoves {M : am_M} (I : Ib M) {r : Nat} (hr : r < 6) (h0 : 0 ≤ M 2 r) : ((∀ j : Nat, (j : Int) < M 2 r → wm_ M r j) → X_X9_areMoves_53 r M = some (1, M)) ∧ (¬ (∀ j : Nat, (j : Int) < M 2 r → wm_ M r j) → X_X9_areMoves_53 r M = some (0, M)) := by
  have hs := I.2.1.2.1 r
  rw [X_X9_areMoves_53, XB_X9_areMoves_53_e]
  have := lp_am XB_X9_areMoves_53_7 I hr (M 2 r).toNat 1000 0 1 (Or.inr rfl) (by omega) (by omega)
  rw [show ((0 : Nat) : Int) = 0 from rfl] at this
  constructor
  · intro h
    rw [this.1 ⟨rfl, fun j _ h2 => h j (by omega)⟩]; rfl
  · intro h
    rw [this.2 (fun q => h (fun j hj => q.2 j (by omega) (by omega)))]; rfl
/-! going along a row of moves: where it stops, where the border is then, how rude it was -/
noncomputable def wF (mv : Int → Int → Int → Int) (f : Nat → Int) (d : Int) : Nat → Nat → Int → Nat
  | 0, i, _ => i
  | e + 1, i, b => if mv b (f i) (d + i) = -1 then i else wF mv f d e (i + 1) (b + f i)
noncomputable def wB_ (mv : Int → Int → Int → Int) (f : Nat → Int) (d : Int) : Nat → Nat → Int → Int
  | 0, _, b => b
  | e + 1, i, b => if mv b (f i) (d + i) = -1 then b else wB_ mv f d e (i + 1) (b + f i)
noncomputable def wR (mv : Int → Int → Int → Int) (f : Nat → Int) (d : Int) : Nat → Nat → Int → Int → Int
  | 0, _, _, a => a
  | e + 1, i, b, a => if mv b (f i) (d + i) = -1 then a else wR mv f d e (i + 1) (b + f i) (a + mv b (f i) (d + i))
theorem wF_r (mv : Int → Int → Int → Int) (f : Nat → Int) (d : Int) : ∀ (e i : Nat) (b : Int), i ≤ wF mv f d e i b ∧ wF mv f d e i b ≤ i + e
  | 0, i, b => by simp [wF]
  | e + 1, i, b => by
    rw [wF]
    split
    · omega
    · have := wF_r mv f d e (i + 1) (b + f i); omega
theorem wB_s (mv : Int → Int → Int → Int) (f : Nat → Int) (d : Int) : ∀ (e i : Nat) (b : Int), wB_ mv f d e i b = b + sf f i (wF mv f d e i b - i)
  | 0, i, b => by simp [wB_, wF, sf]
  | e + 1, i, b => by
    rw [wB_, wF]
    split
    · simp [sf]
    · have := wF_r mv f d e (i + 1) (b + f i)
      rw [wB_s mv f d e (i + 1), show wF mv f d e (i + 1) (b + f i) - i = (wF mv f d e (i + 1) (b + f i) - (i + 1)) + 1 by omega]
      simp only [sf]
      rw [Int.add_assoc]
theorem lp_first (k : Int → am_M → am_Rs) {M : am_M} (I : Ib M) {r : Nat} (hr : r < 6) (hk : k (M 2 r) M = some (M 2 r, M)) : ∀ (e n i : Nat) (b : Int), (0 ≤ b ∧ b ≤ M 11 0) → (i : Int) + e = M 2 r → e < n → (∀ j, i ≤ j → j < i + e → wm_ M r j) → XL_X4_firstThatCannotBe_36_1_1 k n r (M 2 r) b i M = some ((wF (mv_ M) (rw_ M r) (M 14 0) e i b : Int), M)
  | 0, n + 1, i, b, hb, hi, hn, h => by
    have hs := I.2.1.2.1 r
    rw [XL_X4_firstThatCannotBe_36_1_1, XB_X4_firstThatCannotBe_36_1_1, wI_of (x := (i : Int)) (by omega) (by omega), wI_of (x := M 2 r) (by omega) (by omega), if_neg (by omega), hk, wF, ← hi]; rfl
  | e + 1, n + 1, i, b, hb, hi, hn, h => by
    have hs := I.2.1.2.1 r
    have r0 := I.r0
    have rs := I.rs
    have q := h i (by omega) (by omega)
    unfold wm_ at q
    have hv := mv_r M b (rw_ M r i) (M 14 0 + i)
    rw [XL_X4_firstThatCannotBe_36_1_1, XB_X4_firstThatCannotBe_36_1_1, wI_of (x := (i : Int)) (by omega) (by omega), wI_of (x := M 2 r) (by omega) (by omega), if_pos (by omega), c_get I hr (by omega), ob]
    dsimp +instances only
    rw [c_rud I hb q (by omega), ob]
    dsimp +instances only
    rw [wI_of (x := mv_ M b (rw_ M r i) (M 14 0 + i)) (by omega) (by omega), wF]
    by_cases c : mv_ M b (rw_ M r i) (M 14 0 + i) = -1
    · rw [if_pos (by omega), if_pos c]
    · rw [if_neg (by omega), if_neg c]
      exact lp_first k I hr hk e n (i + 1) (b + rw_ M r i) (mv_in (by omega) hb c) (by push_cast; omega) (by omega) (fun j h1 h2 => h j (by omega) (by omega))
theorem sp_first {M : am_M} (I : Ib M) {r : Nat} (hr : r < 6) (h0 : 0 ≤ M 2 r) (h : ∀ j : Nat, (j : Int) < M 2 r → wm_ M r j) : X_X4_firstThatCannotBe_36_1 r M = some ((wF (mv_ M) (rw_ M r) (M 14 0) (M 2 r).toNat 0 (M 14 1) : Int), M) := by
  have hs := I.2.1.2.1 r
  rw [X_X4_firstThatCannotBe_36_1, XB_X4_firstThatCannotBe_36_1_e, c_size I hr, ob]
  dsimp +instances only
  have := lp_first XB_X4_firstThatCannotBe_36_1_5 I hr rfl (M 2 r).toNat 1000 0 (M 14 1) I.r1 (by omega) (by omega) (fun j _ h2 => h j (by omega))
  rw [show ((0 : Nat) : Int) = 0 from rfl] at this
  exact this
theorem lp_bb (k : Int → am_M → am_Rs) {M : am_M} (I : Ib M) {r : Nat} (hr : r < 6) {v : Nat} (hv : (v : Int) ≤ M 2 r) : ∀ (e n i : Nat) (b : Int), i + e = v → e < n → XL_X4_borderBehind_36_1_1 k n r v b i M = k (b + sf (rw_ M r) i e) M
  | 0, n + 1, i, b, hi, hn => by
    have hs := I.2.1.2.1 r
    rw [XL_X4_borderBehind_36_1_1, XB_X4_borderBehind_36_1_1, wI_of (x := (i : Int)) (by omega) (by omega), wI_of (x := (v : Int)) (by omega) (by omega), if_neg (by omega)]
    simp only [sf, Int.add_zero]
  | e + 1, n + 1, i, b, hi, hn => by
    have hs := I.2.1.2.1 r
    have ih := lp_bb k I hr hv e n (i + 1) (b + rw_ M r i) (by omega) (by omega)
    rw [XL_X4_borderBehind_36_1_1, XB_X4_borderBehind_36_1_1, wI_of (x := (i : Int)) (by omega) (by omega), wI_of (x := (v : Int)) (by omega) (by omega), if_pos (by omega), c_get I hr (by omega), ob]
    simp only [sf]
    rw [← Int.add_assoc]
    exact ih
theorem sp_bb {M : am_M} (I : Ib M) {r : Nat} (hr : r < 6) {v : Nat} (hv : (v : Int) ≤ M 2 r) : X_X4_borderBehind_36_1 r v M = some (M 14 1 + sf (rw_ M r) 0 v, M) := by
  have hs := I.2.1.2.1 r
  rw [X_X4_borderBehind_36_1, XB_X4_borderBehind_36_1_e]
  have := lp_bb XB_X4_borderBehind_36_1_3 I hr hv v 1000 0 (M 14 1) (by omega) (by omega)
  rw [show ((0 : Nat) : Int) = 0 from rfl] at this
  rw [this]; rfl
/-- the reference's memory with where it has gone to and how rudely -/
noncomputable def gB (N : am_M) (b a : Int) : am_M := am_up (am_up N 53 19 b) 53 20 a
theorem gB_up (N : am_M) (b a b' a' : Int) : am_up (am_up (gB N b a) 53 19 b') 53 20 a' = gB N b' a' := by
  funext c
  unfold gB
  by_cases hc : c = 53
  · subst hc
    funext j
    by_cases h20 : j = 20
    · subst h20; rw [up_s, up_s]
    · rw [up_j h20, up_j h20]
      by_cases h19 : j = 19
      · subst h19; rw [up_s, up_s]
      · rw [up_j h19, up_j h19, up_j h20, up_j h19]
  · rw [up_a hc, up_a hc, up_a hc, up_a hc, up_a hc, up_a hc]
theorem gB_a {N : am_M} {b a : Int} {c : Nat} (h : c ≠ 53) : gB N b a c = N c := by unfold gB; rw [up_a h, up_a h]
theorem gB_j {N : am_M} {b a : Int} {j : Nat} (h1 : j ≠ 19) (h2 : j ≠ 20) : gB N b a 53 j = N 53 j := by unfold gB; rw [up_j h2, up_j h1]
theorem gB_K (N : am_M) (b a : Int) : Kp N (gB N b a) := (Kp.up53 (by decide)).tr (Kp.up53 (by decide))
theorem inv_find2 {M : am_M} (I : Inv M) (b a : Int) : Inv (mF 3 (gB (cF 3 M) b a)) := by
  have I2 : Inv (mF 3 (cF 3 M)) := inv_find I 3
  refine Kp.inv I2 ⟨fun c hc => ?_, fun j hj => ?_, fun j _ => rfl⟩
  · unfold mF
    by_cases c1 : c = 61
    · subst c1
      funext j
      by_cases c3 : j = 3
      · subst c3; rw [up_s, up_s, gB_a (by decide)]
      · rw [up_j c3, up_j c3, up_a (a := 53) (a' := 61) (by decide), up_a (a := 53) (a' := 61) (by decide), gB_a (by decide)]
    · rw [up_a c1, up_a c1, up_a (by omega), up_a (by omega), gB_a (by omega)]
  · unfold mF
    rw [up_a (a := 61) (a' := 53) (by decide), up_a (a := 61) (a' := 53) (by decide)]
    by_cases cj : j = 11
    · subst cj; rw [up_s, up_s]
    · rw [up_j cj, up_j cj, gB_j (by omega) (by omega)]
theorem lp_along (k : Int → am_M → am_Rs) {M : am_M} (I : Ib M) {r : Nat} (hr : r < 6) (hk : ∀ N : am_M, N 57 = M 57 → k r N = some (M 2 r, N)) : ∀ (e n i : Nat) (b a : Int), (0 ≤ b ∧ b ≤ M 11 0) → (i : Int) + e = M 2 r → e < n → (∀ j, i ≤ j → j < i + e → wm_ M r j) → XL_X9_goAlong_53_1 k n r i (gB M b a) = some ((wF (mv_ M) (rw_ M r) (M 14 0) e i b : Int), gB M (wB_ (mv_ M) (rw_ M r) (M 14 0) e i b) (wR (mv_ M) (rw_ M r) (M 14 0) e i b a))
  | 0, n + 1, i, b, a, hb, hi, hn, h => by
    have hs := I.2.1.2.1 r
    rw [XL_X9_goAlong_53_1, XB_X9_goAlong_53_1, wI_of (x := (r : Int)) (by omega) (by omega), if_pos (by omega), Int.toNat_natCast, gB_a (by decide), I.2.1.1, wI_of (x := (i : Int)) (by omega) (by omega), wI_of (x := M 2 r) (by omega) (by omega), if_neg (by omega), hk _ (gB_a (by decide)), wF, wB_, wR, ← hi]; rfl
  | e + 1, n + 1, i, b, a, hb, hi, hn, h => by
    have hs := I.2.1.2.1 r
    have r0 := I.r0
    have rs := I.rs
    have q := h i (by omega) (by omega)
    unfold wm_ at q
    have hv := mv_r M b (rw_ M r i) (M 14 0 + i)
    have e1 : ∀ _ : Unit, wI (40 * (r : Int) + i) = ((40 * r + i : Nat) : Int) := fun _ => by rw [wI_of (by omega) (by omega)]; push_cast; omega
    have I' : Ib (gB M b a) := Kb.ib I (gB_K M b a).b
    have hm := m_rud I' (b := b) (m := rw_ M r i) (d := M 14 0 + i) hb q (by omega)
    have hmv : mv_ (gB M b a) b (rw_ M r i) (M 14 0 + i) = mv_ M b (rw_ M r i) (M 14 0 + i) := by unfold mv_; rw [gB_a (by decide), gB_a (by decide)]
    rw [hmv] at hm
    have g19 : gB M b a 53 19 = b := by unfold gB; rw [up_j (by decide), up_s]
    have g20 : ∀ x, (am_up (gB M b a) 53 19 x) 53 20 = a := fun x => by unfold gB; rw [up_j (by decide), up_s]
    rw [XL_X9_goAlong_53_1, XB_X9_goAlong_53_1, wI_of (x := (r : Int)) (by omega) (by omega), if_pos (by omega), Int.toNat_natCast]
    simp only [gB_a (show 57 ≠ 53 by decide), gB_a (show 58 ≠ 53 by decide), gB_a (show 54 ≠ 53 by decide), g19, I.d0]
    rw [I.2.1.1, wI_of (x := (i : Int)) (by omega) (by omega), wI_of (x := M 2 r) (by omega) (by omega), if_pos (by omega)]
    simp only [e1 (), Int.toNat_natCast, m_row I hr (show (i : Int) < M 2 r by omega), hm, ob, g19, g20, gB_up]
    rw [if_pos (by omega), wF, wB_, wR]
    unfold mr_
    by_cases c : mv_ M b (rw_ M r i) (M 14 0 + i) = -1
    · rw [if_pos c, if_pos c, if_pos c, if_pos c, if_pos (show wI (-9) = -9 from rfl)]
    · rw [if_neg c, if_neg c, if_neg c, if_neg c, wI_of (x := mv_ M b (rw_ M r i) (M 14 0 + i)) (by omega) (by omega), if_neg (by omega)]
      exact lp_along k I hr hk e n (i + 1) (b + rw_ M r i) (a + mv_ M b (rw_ M r i) (M 14 0 + i)) (mv_in (by omega) hb c) (by push_cast; omega) (by omega) (fun j h1 h2 => h j (by omega) (by omega))
theorem sp_along {M : am_M} (I : Ib M) {r : Nat} (hr : r < 6) (h0 : 0 ≤ M 2 r) (h : ∀ j : Nat, (j : Int) < M 2 r → wm_ M r j) : X_X9_goAlong_53 r M = some ((wF (mv_ M) (rw_ M r) (M 14 0) (M 2 r).toNat 0 (M 14 1) : Int), gB M (wB_ (mv_ M) (rw_ M r) (M 14 0) (M 2 r).toNat 0 (M 14 1)) (wR (mv_ M) (rw_ M r) (M 14 0) (M 2 r).toNat 0 (M 14 1) 0)) := by
  have hs := I.2.1.2.1 r
  rw [X_X9_goAlong_53, XB_X9_goAlong_53_e, I.d1]
  have := lp_along XB_X9_goAlong_53_5 I hr (fun N hN => by rw [XB_X9_goAlong_53_5, wI_of (x := (r : Int)) (by omega) (by omega), if_pos (by omega), Int.toNat_natCast, hN, I.2.1.1]) (M 2 r).toNat 1000 0 (M 14 1) 0 I.r1 (by omega) (by omega) (fun j _ h2 => h j (by omega))
  rw [show ((0 : Nat) : Int) = 0 from rfl] at this
  exact this
theorem eq_judge {M : am_M} (I : Inv M) {r : Int} (hr : iR r) : Step (X_X8_judge_0 r) (X_X9_judge_53 r) M := gd_judge I hr fun h1 h2 h3 => by
  obtain ⟨q, rfl⟩ := Int.eq_ofNat_of_zero_le h1.1
  rw [Int.toNat_natCast] at h3
  have hq : q < 6 := by omega
  have hs := I.2.1.2.1 q
  have rs := I.rs
  have es := I.es
  by_cases c : ∀ j : Nat, (j : Int) < M 2 q → wm_ M q j
  · obtain ⟨F, hF⟩ : ∃ F, F = wF (mv_ M) (rw_ M q) (M 14 0) (M 2 q).toNat 0 (M 14 1) := ⟨_, rfl⟩
    have fr := wF_r (mv_ M) (rw_ M q) (M 14 0) (M 2 q).toNat 0 (M 14 1)
    rw [← hF] at fr
    have fb := wB_s (mv_ M) (rw_ M q) (M 14 0) (M 2 q).toNat 0 (M 14 1)
    rw [← hF, Nat.sub_zero] at fb
    obtain ⟨v, hv⟩ : ∃ v, v = M 14 1 + sf (rw_ M q) 0 F := ⟨_, rfl⟩
    rw [← hv] at fb
    have hc : X_X8_judge_0 q M = some ((F : Int), cT v M) := by
      rw [X_X8_judge_0, sp_isNumber_1 I.sh1 hr, b2_t h1, ob]
      dsimp +instances only
      rw [if_neg (by decide), sp_hasNoLand I.g11, b2_f h2, ob]
      dsimp +instances only
      rw [if_pos wI_0, sp_isThere_1 I.sh1 h1, Int.toNat_natCast, b2_t h3, ob]
      dsimp +instances only
      rw [if_neg (by decide), (sp_within I.b hq h3).1 c, ob]
      dsimp +instances only
      rw [if_neg (by decide), sp_first I.b hq h3 c, ob, ← hF]
      dsimp +instances only
      rw [sp_bb I.b hq (by omega), ob, ← hv]
      dsimp +instances only
      rw [sp_tell_0, ob]
    have B : Ib (cT v M) := Kb.ib I.b (Kb.ct M v)
    have e1 : X_X9_areMoves_53 q (cT v M) = some (1, cT v M) := (sp_areMoves B hq h3).1 c
    have e2 : X_X9_goAlong_53 q (cT v M) = some ((wF (mv_ M) (rw_ M q) (M 14 0) (M 2 q).toNat 0 (M 14 1) : Int), gB (cT v M) (wB_ (mv_ M) (rw_ M q) (M 14 0) (M 2 q).toNat 0 (M 14 1)) (wR (mv_ M) (rw_ M q) (M 14 0) (M 2 q).toNat 0 (M 14 1) 0)) := sp_along B hq h3 c
    rw [← hF, fb] at e2
    generalize wR (mv_ M) (rw_ M q) (M 14 0) (M 2 q).toNat 0 (M 14 1) 0 = a at e2
    have g19 : gB (cT v M) v a 53 19 = v := by unfold gB; rw [up_j (by decide), up_s]
    have hm : X_X9_judge_53 q (cT v M) = some ((F : Int), am_up (gB (cT v M) v a) 53 8 v) := by
      rw [X_X9_judge_53, sp_isRow _ hr, b2_t h1, ob]
      dsimp +instances only
      rw [if_neg (by decide), show (cT v M) 53 1 = M 11 0 from es, wI_of (x := M 11 0) (by omega) (by omega), if_neg h2, wI_of (x := (q : Int)) (by omega) (by omega), if_pos (by omega), Int.toNat_natCast, show (cT v M) 57 q = M 2 q by (show M 57 q = M 2 q; rw [I.2.1.1]), wI_of (x := M 2 q) (by omega) (by omega), if_neg (by omega), e1, ob]
      dsimp +instances only
      rw [if_neg (by decide), e2, ob]
      dsimp +instances only
      rw [g19]
    refine ⟨_, _, _, _, hc, hm, rfl, ?_⟩
    have I2 : Inv (mT v (cT v M)) := inv_tell I v
    refine Kp.inv I2 ⟨fun b hb => ?_, fun j hj => ?_, fun j _ => ?_⟩
    · rw [up_a (by omega), gB_a (by omega)]; unfold mT; rw [up_a (by omega)]
    · unfold mT
      by_cases cj : j = 8
      · subst cj; rw [up_s, up_s]
      · rw [up_j cj, up_j cj, gB_j (by omega) (by omega)]
    · rw [up_a (by decide), gB_a (by decide)]; unfold mT; rw [up_a (by decide)]
  · refine st_find I (f := 3) ?_ ?_
    · rw [X_X8_judge_0, sp_isNumber_1 I.sh1 hr, b2_t h1, ob]
      dsimp +instances only
      rw [if_neg (by decide), sp_hasNoLand I.g11, b2_f h2, ob]
      dsimp +instances only
      rw [if_pos wI_0, sp_isThere_1 I.sh1 h1, Int.toNat_natCast, b2_t h3, ob]
      dsimp +instances only
      rw [if_neg (by decide), (sp_within I.b hq h3).2 c, ob]
      dsimp +instances only
      rw [if_pos wI_0, f_c3, ob]
    · have B : Ib (cF 3 M) := Kb.ib I.b (Kb.cf M 3)
      have e1 : X_X9_areMoves_53 q (cF 3 M) = some (0, cF 3 M) := (sp_areMoves B hq h3).2 c
      rw [X_X9_judge_53, sp_isRow _ hr, b2_t h1, ob]
      dsimp +instances only
      rw [if_neg (by decide), show (cF 3 M) 53 1 = M 11 0 from es, wI_of (x := M 11 0) (by omega) (by omega), if_neg h2, wI_of (x := (q : Int)) (by omega) (by omega), if_pos (by omega), Int.toNat_natCast, show (cF 3 M) 57 q = M 2 q by (show M 57 q = M 2 q; rw [I.2.1.1]), wI_of (x := M 2 q) (by omega) (by omega), if_neg (by omega), e1, ob]
      dsimp +instances only
      rw [if_pos wI_0, f_m3, ob]
/-! a row that can be gone along -/
noncomputable def cg_ (M : am_M) (r : Nat) : Prop := (∀ j : Nat, (j : Int) < M 2 r → wm_ M r j) ∧ (wF (mv_ M) (rw_ M r) (M 14 0) (M 2 r).toNat 0 (M 14 1) : Int) = M 2 r
theorem sp_canGo {M : am_M} (I : Ib M) {r : Nat} (hr : r < 6) (h0 : 0 ≤ M 2 r) : (cg_ M r → X_X8_canGo_0 r M = some (1, M)) ∧ (¬ cg_ M r → X_X8_canGo_0 r M = some (0, M)) := by
  have hs := I.2.1.2.1 r
  have fr := wF_r (mv_ M) (rw_ M r) (M 14 0) (M 2 r).toNat 0 (M 14 1)
  unfold cg_
  by_cases c : ∀ j : Nat, (j : Int) < M 2 r → wm_ M r j
  · have st : X_X8_canGo_0 r M = if (wF (mv_ M) (rw_ M r) (M 14 0) (M 2 r).toNat 0 (M 14 1) : Int) = M 2 r then some (1, M) else some (0, M) := by
      rw [X_X8_canGo_0, (sp_within I hr h0).1 c, ob]
      dsimp +instances only
      rw [if_neg (by decide), sp_first I hr h0 c, ob]
      dsimp +instances only
      rw [c_size I hr, ob]
      dsimp +instances only
      rw [wI_of (x := (wF (mv_ M) (rw_ M r) (M 14 0) (M 2 r).toNat 0 (M 14 1) : Int)) (by omega) (by omega), wI_of (x := M 2 r) (by omega) (by omega)]
    rw [st]
    exact ⟨fun h => if_pos h.2, fun h => if_neg (fun q => h ⟨c, q⟩)⟩
  · refine ⟨fun h => absurd h.1 c, fun _ => ?_⟩
    rw [X_X8_canGo_0, (sp_within I hr h0).2 c, ob]
    dsimp +instances only
    rw [if_pos wI_0]
theorem lp_rude (k : Int → am_M → am_Rs) {M : am_M} (I : Ib M) {r : Nat} (hr : r < 6) : ∀ (e n i : Nat) (b a : Int), (0 ≤ b ∧ b ≤ M 11 0) → (i : Int) + e = M 2 r → e < n → (∀ j, i ≤ j → j < i + e → wm_ M r j) → wF (mv_ M) (rw_ M r) (M 14 0) e i b = i + e → XL_X4_rudenessOf_36_1_1 k n r a b i M = k (wR (mv_ M) (rw_ M r) (M 14 0) e i b a) M
  | 0, n + 1, i, b, a, hb, hi, hn, h, hw => by
    have hs := I.2.1.2.1 r
    rw [XL_X4_rudenessOf_36_1_1, XB_X4_rudenessOf_36_1_1, c_size I hr, ob]
    dsimp +instances only
    rw [wI_of (x := (i : Int)) (by omega) (by omega), wI_of (x := M 2 r) (by omega) (by omega), if_neg (by omega), wR]
  | e + 1, n + 1, i, b, a, hb, hi, hn, h, hw => by
    have hs := I.2.1.2.1 r
    have r0 := I.r0
    have q := h i (by omega) (by omega)
    unfold wm_ at q
    rw [wF] at hw
    have c : ¬ mv_ M b (rw_ M r i) (M 14 0 + i) = -1 := fun c => by rw [if_pos c] at hw; omega
    rw [if_neg c] at hw
    rw [XL_X4_rudenessOf_36_1_1, XB_X4_rudenessOf_36_1_1, c_size I hr, ob]
    dsimp +instances only
    rw [wI_of (x := (i : Int)) (by omega) (by omega), wI_of (x := M 2 r) (by omega) (by omega), if_pos (by omega), c_get I hr (by omega), ob]
    dsimp +instances only
    rw [c_rud I hb q (by omega), ob, wR, if_neg c]
    exact lp_rude k I hr e n (i + 1) (b + rw_ M r i) (a + mv_ M b (rw_ M r i) (M 14 0 + i)) (mv_in (by omega) hb c) (by push_cast; omega) (by omega) (fun j h1 h2 => h j (by omega) (by omega)) (by omega)
theorem sp_alongN {M N : am_M} (I : Ib N) (hN : Kb M N) {r : Nat} (hr : r < 6) (h0 : 0 ≤ M 2 r) (h : ∀ j : Nat, (j : Int) < M 2 r → wm_ M r j) : X_X9_goAlong_53 r N = some ((wF (mv_ M) (rw_ M r) (M 14 0) (M 2 r).toNat 0 (M 14 1) : Int), gB N (wB_ (mv_ M) (rw_ M r) (M 14 0) (M 2 r).toNat 0 (M 14 1)) (wR (mv_ M) (rw_ M r) (M 14 0) (M 2 r).toNat 0 (M 14 1) 0)) := by
  have k2 := hN.1 2 (by decide)
  have k3 := hN.1 3 (by decide)
  have k14 := hN.1 14 (by decide)
  have km : mv_ N = mv_ M := by funext b m d; unfold mv_; rw [hN.1 11 (by decide), hN.1 12 (by decide)]
  have kr : rw_ N r = rw_ M r := by funext j; unfold rw_; rw [k3]
  have := sp_along I hr (by rw [k2]; exact h0) (by rw [k2]; intro j hj; unfold wm_; rw [kr]; exact h j hj)
  rw [km, kr, k14, k2] at this
  exact this
theorem sp_areMovesN {M N : am_M} (I : Ib N) (hN : Kb M N) {r : Nat} (hr : r < 6) (h0 : 0 ≤ M 2 r) : ((∀ j : Nat, (j : Int) < M 2 r → wm_ M r j) → X_X9_areMoves_53 r N = some (1, N)) ∧ (¬ (∀ j : Nat, (j : Int) < M 2 r → wm_ M r j) → X_X9_areMoves_53 r N = some (0, N)) := by
  have k2 := hN.1 2 (by decide)
  have k3 := hN.1 3 (by decide)
  have kr : ∀ j, wm_ N r j = wm_ M r j := by intro j; unfold wm_ rw_; rw [k3]
  have := sp_areMoves I hr (by rw [k2]; exact h0)
  rw [k2] at this
  simp only [kr] at this
  exact this
theorem eq_rude {M : am_M} (I : Inv M) {r : Int} (hr : iR r) : Step (X_X8_rude_0 r) (X_X9_rude_53 r) M := gd_rude I hr fun h1 h2 h3 => by
  obtain ⟨q, rfl⟩ := Int.eq_ofNat_of_zero_le h1.1
  rw [Int.toNat_natCast] at h3
  have hq : q < 6 := by omega
  have hs := I.2.1.2.1 q
  have rs := I.rs
  have es := I.es
  have fr := wF_r (mv_ M) (rw_ M q) (M 14 0) (M 2 q).toNat 0 (M 14 1)
  have cS : X_X8_rude_0 q M = (X_X8_canGo_0 q M).bind fun z4 => if wI z4.1 = 0 then (X_X8_find_0 3 z4.2).bind fun z5 => some (z5.1, z5.2) else (X_X4_rudenessOf_36_1 q z4.2).bind fun z5 => some (z5.1, z5.2) := by
    rw [X_X8_rude_0, sp_isNumber_1 I.sh1 hr, b2_t h1, ob]
    dsimp +instances only
    rw [if_neg (by decide), sp_hasNoLand I.g11, b2_f h2, ob]
    dsimp +instances only
    rw [if_pos wI_0, sp_isThere_1 I.sh1 h1, Int.toNat_natCast, b2_t h3, ob]
    dsimp +instances only
    rw [if_neg (by decide)]
  have mS : ∀ N : am_M, N 53 1 = M 53 1 → N 57 = M 57 → X_X9_rude_53 q N = (X_X9_areMoves_53 q N).bind fun z2 => if wI z2.1 = 0 then (X_X9_find_53 3 z2.2).bind fun z3 => some (z3.1, z3.2) else (X_X9_goAlong_53 q z2.2).bind fun z3 => if wI z3.1 < wI (z3.2 57 q) then (X_X9_find_53 3 z3.2).bind fun z4 => some (z4.1, z4.2) else some (z3.2 53 20, z3.2) := by
    intro N n1 n2
    rw [X_X9_rude_53, sp_isRow _ hr, b2_t h1, ob]
    dsimp +instances only
    rw [if_neg (by decide), n1, es, wI_of (x := M 11 0) (by omega) (by omega), if_neg h2, wI_of (x := (q : Int)) (by omega) (by omega), if_pos (by omega), Int.toNat_natCast, n2, I.2.1.1, wI_of (x := M 2 q) (by omega) (by omega), if_neg (by omega)]
    simp only [if_pos (show 0 ≤ (q : Int) ∧ (q : Int) < 6 by omega)]
  by_cases c : cg_ M q
  · have hc : X_X8_rude_0 q M = some (wR (mv_ M) (rw_ M q) (M 14 0) (M 2 q).toNat 0 (M 14 1) 0, M) := by
      rw [cS, (sp_canGo I.b hq h3).1 c, ob]
      dsimp +instances only
      have := lp_rude XB_X4_rudenessOf_36_1_3 I.b hq (M 2 q).toNat 1000 0 (M 14 1) 0 I.r1 (by omega) (by omega) (fun j _ h2 => c.1 j (by omega)) (by have := c.2; omega)
      rw [show ((0 : Nat) : Int) = 0 from rfl] at this
      rw [if_neg (by decide), X_X4_rudenessOf_36_1, XB_X4_rudenessOf_36_1_e, this]; rfl
    have e2 := sp_along I.b hq h3 c.1
    have hm : X_X9_rude_53 q M = some (wR (mv_ M) (rw_ M q) (M 14 0) (M 2 q).toNat 0 (M 14 1) 0, gB M (wB_ (mv_ M) (rw_ M q) (M 14 0) (M 2 q).toNat 0 (M 14 1)) (wR (mv_ M) (rw_ M q) (M 14 0) (M 2 q).toNat 0 (M 14 1) 0)) := by
      rw [mS M rfl rfl, (sp_areMoves I.b hq h3).1 c.1, ob]
      dsimp +instances only
      rw [if_neg (by decide), e2, ob]
      dsimp +instances only
      rw [gB_a (by decide), I.2.1.1, c.2, if_neg (Int.lt_irrefl _)]
      unfold gB; rw [up_s]
    exact st_kp I hc (Kp.rf M) hm (gB_K _ _ _) rfl
  · have hc : X_X8_rude_0 q M = some (-3, cF 3 M) := by
      rw [cS, (sp_canGo I.b hq h3).2 c, ob]
      dsimp +instances only
      rw [if_pos wI_0, f_c3, ob]
    have B : Ib (cF 3 M) := Kb.ib I.b (Kb.cf M 3)
    by_cases c1 : ∀ j : Nat, (j : Int) < M 2 q → wm_ M q j
    · have c2 : (wF (mv_ M) (rw_ M q) (M 14 0) (M 2 q).toNat 0 (M 14 1) : Int) ≠ M 2 q := fun h => c ⟨c1, h⟩
      have e2 := sp_alongN B (Kb.cf M 3) hq h3 c1
      have hm : X_X9_rude_53 q (cF 3 M) = some (-3, mF 3 (gB (cF 3 M) (wB_ (mv_ M) (rw_ M q) (M 14 0) (M 2 q).toNat 0 (M 14 1)) (wR (mv_ M) (rw_ M q) (M 14 0) (M 2 q).toNat 0 (M 14 1) 0))) := by
        rw [mS (cF 3 M) rfl rfl, (sp_areMovesN B (Kb.cf M 3) hq h3).1 c1, ob]
        dsimp +instances only
        rw [if_neg (by decide), e2, ob]
        dsimp +instances only
        rw [gB_a (by decide), show (cF 3 M) 57 q = M 2 q by (show M 57 q = M 2 q; rw [I.2.1.1]), wI_of (x := (wF (mv_ M) (rw_ M q) (M 14 0) (M 2 q).toNat 0 (M 14 1) : Int)) (by omega) (by omega), wI_of (x := M 2 q) (by omega) (by omega), if_pos (by omega), f_m3, ob]
      refine ⟨_, _, _, _, hc, hm, rfl, ?_⟩
      exact inv_find2 I _ _
    · refine st_find I hc ?_
      rw [mS (cF 3 M) rfl rfl, (sp_areMovesN B (Kb.cf M 3) hq h3).2 c1, ob]
      dsimp +instances only
      rw [if_pos wI_0, f_m3, ob]
