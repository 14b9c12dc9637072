/-! Books: which starts fit them. -/
noncomputable def tr_ (F : Int → Int → Int → Int → Int) (a b : Nat → Int) (p : Int) : Nat → Int
  | 0 => p
  | n + 1 => F (tr_ F a b p n) n (a n) (b n)
theorem tr_r {F : Int → Int → Int → Int → Int} {a b : Nat → Int} {s p : Int} (hF : ∀ b d x y, (0 ≤ b ∧ b ≤ s) → 0 ≤ F b d x y ∧ F b d x y ≤ s) (hp : 0 ≤ p ∧ p ≤ s) : ∀ n, 0 ≤ tr_ F a b p n ∧ tr_ F a b p n ≤ s
  | 0 => hp
  | n + 1 => hF _ _ _ _ (tr_r hF hp n)
theorem lp_rt_11 {M : am_M} (g : Gd11 M) (hd : 0 ≤ M 14 0 ∧ M 14 0 ≤ 40) (hS : ∀ j, (0 ≤ M 15 j ∧ M 15 j ≤ 3) ∧ (0 ≤ M 16 j ∧ M 16 j ≤ 3)) {p : Int} (hp : 0 ≤ p ∧ p ≤ M 11 0) : ∀ (e n i : Nat) (f : Nat → Int), (i : Int) + e = M 14 0 → e < n → (∀ j, j ≤ i → f j = tr_ (aft (M 11 0) (M 12)) (M 15) (M 16) p j) → ∃ f', XL_X1_retrace_14_11_51_3 XB_X1_retrace_14_11_51_6 n i (am_row M 51 f) = some (0, am_row M 51 f') ∧ ∀ j : Nat, (j : Int) ≤ M 14 0 → f' j = tr_ (aft (M 11 0) (M 12)) (M 15) (M 16) p j := by
  intro e
  induction e with
  | zero =>
    intro n i f hi hn hf
    obtain ⟨n, rfl⟩ : ∃ m, n = m + 1 := ⟨n - 1, by omega⟩
    refine ⟨f, ?_, fun j hj => hf j (by omega)⟩
    rw [XL_X1_retrace_14_11_51_3, XB_X1_retrace_14_11_51_3, row_a (by decide), wI_of (x := (i : Int)) (by omega) (by omega), wI_of (x := M 14 0) (by omega) (by omega), if_neg (by omega)]
    rfl
  | succ e ih =>
    intro n i f hi hn hf
    obtain ⟨n, rfl⟩ : ∃ m, n = m + 1 := ⟨n - 1, by omega⟩
    have g' : Gd11 (am_row M 51 f) := by
      unfold Gd11 at g ⊢
      rw [row_a (by decide), row_a (by decide), row_a (by decide)]; exact g
    have hb : 0 ≤ f i ∧ f i ≤ M 11 0 := by
      rw [hf i (Nat.le_refl _)]
      exact tr_r (fun b d x y h => aft_r h) hp i
    have b := sp_borderAfter_11 g' (b := f i) (day := (i : Int)) (x := M 15 i) (y := M 16 i) (by rw [row_a (by decide)]; exact hb) (by omega) (hS i).1 (hS i).2
    rw [row_a (by decide), row_a (by decide)] at b
    obtain ⟨x, hx⟩ : ∃ x, x = aft (M 11 0) (M 12) (f i) i (M 15 i) (M 16 i) := ⟨_, rfl⟩
    rw [← hx] at b
    obtain ⟨f', c1, c2⟩ := ih n (i + 1) (fun j => if j = i + 1 then x else f j) (by push_cast; omega) (by omega) (fun j hj => by
      by_cases c : j = i + 1
      · rw [if_pos c, c, tr_, hx, hf i (Nat.le_refl _)]
      · rw [if_neg c, hf j (by omega)])
    refine ⟨f', ?_, c2⟩
    rw [← c1, XL_X1_retrace_14_11_51_3, XB_X1_retrace_14_11_51_3, row_a (a' := 14) (by decide), row_s, row_a (a' := 15) (by decide), row_a (a' := 16) (by decide), wI_of (x := (i : Int)) (by omega) (by omega), wI_of (x := M 14 0) (by omega) (by omega), if_pos (by omega), if_pos (by omega), if_pos (by omega), if_pos (by omega), if_pos (by omega), Int.toNat_natCast, b, ob]
    dsimp +instances only
    rw [show (i : Int) + 1 = ((i + 1 : Nat) : Int) by omega, wI_of (x := ((i + 1 : Nat) : Int)) (by omega) (by omega), if_pos (by omega), Int.toNat_natCast, up_row, row_row, row_s]
theorem sp_rt_11 {M : am_M} (g : Gd11 M) (hd : 0 ≤ M 14 0 ∧ M 14 0 ≤ 40) (hS : ∀ j, (0 ≤ M 15 j ∧ M 15 j ≤ 3) ∧ (0 ≤ M 16 j ∧ M 16 j ≤ 3)) {p : Int} (hp : 0 ≤ p ∧ p ≤ M 11 0) (f : Nat → Int) : ∃ f', X_X1_retrace_14_11_51 p (am_row M 51 f) = some (0, am_row M 51 f') ∧ ∀ j : Nat, (j : Int) ≤ M 14 0 → f' j = tr_ (aft (M 11 0) (M 12)) (M 15) (M 16) p j := by
  obtain ⟨f', c1, c2⟩ := lp_rt_11 g hd hS hp (M 14 0).toNat 1000 0 (fun j => if j = 0 then p else f j) (by omega) (by omega) (fun j hj => by
    have : j = 0 := by omega
    rw [if_pos this, this, tr_])
  refine ⟨f', ?_, c2⟩
  rw [X_X1_retrace_14_11_51, XB_X1_retrace_14_11_51_e, up_row, row_row, row_s]
  exact c1
theorem Ib.said {M : am_M} (I : Ib M) : ∀ j, (0 ≤ M 15 j ∧ M 15 j ≤ 3) ∧ (0 ≤ M 16 j ∧ M 16 j ≤ 3) := I.2.2.2.2.2.1.1
theorem Ib.word {M : am_M} (I : Ib M) {j : Nat} (h : (j : Int) < M 14 0) : M 54 (40 + j) = 4 * M 15 j + M 16 j := by
  have := (I.2.2.2.2.2.1.2 j h).1
  rw [Nat.zero_add] at this; exact this
noncomputable def tB (M : am_M) (p : Int) : Nat → Int := tr_ (af_ M) (M 15) (M 16) p
theorem tB_r {M : am_M} {p : Int} (hp : 0 ≤ p ∧ p ≤ M 11 0) (n : Nat) : 0 ≤ tB M p n ∧ tB M p n ≤ M 11 0 := tr_r (fun _ _ _ _ h => af_r h) hp n
/-! the model's way to a day -/
theorem lp_bt (k : Int → am_M → am_Rs) {M : am_M} (I : Ib M) {p : Int} (hp : 0 ≤ p ∧ p ≤ M 11 0) {d : Nat} (hd : (d : Int) ≤ M 14 0) : ∀ (e n i : Nat), i + e = d → e < n → XL_X9_broughtTo_53_1 k n d (tB M p i) i M = k (tB M p d) M := by
  intro e
  have r0 := I.r0
  induction e with
  | zero =>
    intro n i hi hn
    obtain ⟨n, rfl⟩ : ∃ m, n = m + 1 := ⟨n - 1, by omega⟩
    have : i = d := by omega
    subst this
    rw [XL_X9_broughtTo_53_1, XB_X9_broughtTo_53_1, if_neg (by omega)]
  | succ e ih =>
    intro n i hi hn
    obtain ⟨n, rfl⟩ : ∃ m, n = m + 1 := ⟨n - 1, by omega⟩
    have hS := I.said i
    have rs := I.rs
    have u1 : ∀ _ : Unit, (wI (4 * M 15 i + M 16 i)).tdiv 4 = M 15 i := fun _ => by rw [wI_of (by omega) (by omega), Int.tdiv_eq_ediv_of_nonneg (by omega)]; omega
    have u2 : ∀ _ : Unit, (wI (4 * M 15 i + M 16 i)).tmod 4 = M 16 i := fun _ => by rw [wI_of (by omega) (by omega), Int.tmod_eq_emod_of_nonneg (by omega)]; omega
    rw [XL_X9_broughtTo_53_1, XB_X9_broughtTo_53_1, wI_of (x := (i : Int)) (by omega) (by omega), wI_of (x := (d : Int)) (by omega) (by omega), if_pos (by omega), show (40 : Int) + i = ((40 + i : Nat) : Int) by omega, wI_of (x := ((40 + i : Nat) : Int)) (by omega) (by omega), if_pos (by omega), if_pos (by omega), Int.toNat_natCast, I.word (by omega), u1 (), u2 (), m_aft I (tB_r hp i) (by omega) hS.1 hS.2, ob]
    dsimp +instances only
    rw [show (i : Int) + 1 = ((i + 1 : Nat) : Int) by omega]
    exact ih n (i + 1) (by omega) (by omega)
theorem sp_bt {M : am_M} (I : Ib M) {p : Int} (hp : 0 ≤ p ∧ p ≤ M 11 0) {d : Int} (hd : 0 ≤ d ∧ d ≤ M 14 0) : X_X9_broughtTo_53 p d M = some (tB M p d.toNat, M) := by
  have r0 := I.r0
  obtain ⟨d, rfl⟩ := Int.eq_ofNat_of_zero_le hd.1
  have := lp_bt XB_X9_broughtTo_53_3 I hp hd.2 d 1000 0 (Nat.zero_add _) (by omega)
  rw [X_X9_broughtTo_53, XB_X9_broughtTo_53_e, Int.toNat_natCast]
  exact this
/-! entries -/
noncomputable def bk_ (M : am_M) (r t : Nat) : Int := b2 ((0 ≤ rw_ M r (3 * t) ∧ rw_ M r (3 * t) ≤ M 14 0) ∧ (0 ≤ rw_ M r (3 * t + 1) ∧ rw_ M r (3 * t + 1) < M 11 0) ∧ 0 ≤ rw_ M r (3 * t + 2) ∧ rw_ M r (3 * t + 2) ≤ 1)
noncomputable def ft_ (T : Nat → Int) (M : am_M) (r t : Nat) : Int := b2 (crw (rw_ M r (3 * t + 1)) (T (rw_ M r (3 * t)).toNat) = rw_ M r (3 * t + 2))
noncomputable def al_ (q : Nat → Int) : Nat → Nat → Int
  | 0, _ => 1
  | e + 1, t => if q t = 0 then 0 else al_ q e (t + 1)
theorem al_01 (q : Nat → Int) : ∀ e t, al_ q e t = 0 ∨ al_ q e t = 1
  | 0, t => Or.inr rfl
  | e + 1, t => by
    rw [al_]
    by_cases c : q t = 0
    · rw [if_pos c]; exact Or.inl rfl
    · rw [if_neg c]; exact al_01 q e (t + 1)
theorem al_all {q : Nat → Int} : ∀ {e t : Nat}, al_ q e t = 1 → ∀ j, t ≤ j → j < t + e → q j ≠ 0
  | 0, t, _, j, h1, h2 => by omega
  | e + 1, t, h, j, h1, h2 => by
    rw [al_] at h
    by_cases c : q t = 0
    · rw [if_pos c] at h; omega
    · rw [if_neg c] at h
      rcases Nat.lt_or_eq_of_le h1 with h3 | h3
      · exact al_all h j h3 (by omega)
      · subst h3; exact c
/-! are they books: the class -/
theorem lp_ab {M : am_M} (I : Ib M) {r : Nat} (hr : r < 6) : ∀ (e n t : Nat), ((3 * (t + e) : Nat) : Int) = M 2 r → e < n → XL_X3_areBooks_47_1_1 XB_X3_areBooks_47_1_4 XB_X3_areBooks_47_1_7 XB_X3_areBooks_47_1_9 n r ((3 * t : Nat) : Int) M = some (al_ (bk_ M r) e t, M) := by
  intro e
  have hs := I.2.1.2.1 r
  have r0 := I.r0
  induction e with
  | zero =>
    intro n t ht hn
    obtain ⟨n, rfl⟩ : ∃ m, n = m + 1 := ⟨n - 1, by omega⟩
    rw [XL_X3_areBooks_47_1_1, XB_X3_areBooks_47_1_1, c_size I hr, ob]
    dsimp +instances only
    rw [wI_of (x := ((3 * t : Nat) : Int)) (by omega) (by omega), wI_of (x := M 2 r) (by omega) (by omega), if_neg (by omega)]
    rfl
  | succ e ih =>
    intro n t ht hn
    obtain ⟨n, rfl⟩ : ∃ m, n = m + 1 := ⟨n - 1, by omega⟩
    have i1 := ih n (t + 1) (by rw [← ht]; congr 1; omega) (by omega)
    rw [XL_X3_areBooks_47_1_1, XB_X3_areBooks_47_1_1, c_size I hr, ob]
    dsimp +instances only
    rw [wI_of (x := ((3 * t : Nat) : Int)) (by omega) (by omega), wI_of (x := M 2 r) (by omega) (by omega), if_pos (by omega), c_get I hr (i := 3 * t) (by omega), ob]
    dsimp +instances only
    rw [wI_R (rw_R I r (3 * t)), wI_of (x := M 14 0) (by omega) (by omega), al_]
    by_cases c1 : 0 ≤ rw_ M r (3 * t) ∧ rw_ M r (3 * t) ≤ M 14 0
    · rw [if_neg (by omega), if_neg (by omega), show ((3 * t : Nat) : Int) + 1 = ((3 * t + 1 : Nat) : Int) by omega, c_get I hr (i := 3 * t + 1) (by omega), ob]
      dsimp +instances only
      rw [sp_has_11 I.g11 (rw_R I r (3 * t + 1)), ob]
      dsimp +instances only
      by_cases c2 : 0 ≤ rw_ M r (3 * t + 1) ∧ rw_ M r (3 * t + 1) < M 11 0
      · rw [b2_t c2, if_neg (by decide), show ((3 * t : Nat) : Int) + 2 = ((3 * t + 2 : Nat) : Int) by omega, c_get I hr (i := 3 * t + 2) (by omega), ob]
        dsimp +instances only
        rw [sp_isCrown M (rw_R I r (3 * t + 2)), ob]
        dsimp +instances only
        by_cases c3 : 0 ≤ rw_ M r (3 * t + 2) ∧ rw_ M r (3 * t + 2) ≤ 1
        · have e1 : bk_ M r t = 1 := b2_t ⟨c1, c2, c3⟩
          rw [b2_t c3, if_neg (by decide), e1, if_neg (by decide), show ((3 * t : Nat) : Int) + 3 = ((3 * (t + 1) : Nat) : Int) by omega]
          exact i1
        · have e1 : bk_ M r t = 0 := b2_f (fun q => c3 q.2.2)
          rw [b2_f c3, if_pos wI_0, e1, if_pos rfl]; rfl
      · have e1 : bk_ M r t = 0 := b2_f (fun q => c2 q.2.1)
        rw [b2_f c2, if_pos wI_0, e1, if_pos rfl]; rfl
    · have e1 : bk_ M r t = 0 := b2_f (fun q => c1 q.1)
      rw [e1, if_pos rfl]
      by_cases c4 : rw_ M r (3 * t) < 0
      · rw [if_pos c4]; rfl
      · rw [if_neg c4, if_pos (by omega)]; rfl
theorem sp_ab {M : am_M} (I : Ib M) {r m : Nat} (hr : r < 6) (hm : ((3 * m : Nat) : Int) = M 2 r) : X_X3_areBooks_47_1 r M = some (al_ (bk_ M r) m 0, M) := by
  have hs := I.2.1.2.1 r
  have := lp_ab I hr m 1000 0 (by rw [Nat.zero_add]; exact hm) (by omega)
  rw [X_X3_areBooks_47_1, XB_X3_areBooks_47_1_e]
  exact this
/-! are they books: the model -/
theorem lp_am3 {M : am_M} (I : Ib M) {r : Nat} (hr : r < 6) : ∀ (e n t : Nat) (v : Int), (v = 0 ∨ v = 1) → ((3 * (t + e) : Nat) : Int) = M 2 r → e < n → XL_X9_areBooks_53_1 XB_X9_areBooks_53_9 n r v ((40 * r + 3 * t : Nat) : Int) M = some (if v = 0 then 0 else al_ (bk_ M r) e t, M) := by
  intro e
  have hs := I.2.1.2.1 r
  have r0 := I.r0
  have rs := I.rs
  induction e with
  | zero =>
    intro n t v hv ht hn
    obtain ⟨n, rfl⟩ : ∃ m, n = m + 1 := ⟨n - 1, by omega⟩
    rw [XL_X9_areBooks_53_1, XB_X9_areBooks_53_1, wI_of (x := (r : Int)) (by omega) (by omega), if_pos (by omega), Int.toNat_natCast, I.2.1.1, wI_of (x := ((40 * r + 3 * t : Nat) : Int)) (by omega) (by omega), wI_of (x := 40 * (r : Int) + M 2 r) (by omega) (by omega), if_neg (by omega), XB_X9_areBooks_53_9, if_pos hv]
    rcases hv with rfl | rfl
    · rfl
    · rfl
  | succ e ih =>
    intro n t v hv ht hn
    obtain ⟨n, rfl⟩ : ∃ m, n = m + 1 := ⟨n - 1, by omega⟩
    have iH := fun v hv => ih n (t + 1) v hv (by rw [← ht]; congr 1; omega) (by omega)
    have e3 : ((40 * r + 3 * t : Nat) : Int) + 3 = ((40 * r + 3 * (t + 1) : Nat) : Int) := by omega
    rw [XL_X9_areBooks_53_1, XB_X9_areBooks_53_1, wI_of (x := (r : Int)) (by omega) (by omega), if_pos (by omega), Int.toNat_natCast, I.2.1.1, wI_of (x := ((40 * r + 3 * t : Nat) : Int)) (by omega) (by omega), wI_of (x := 40 * (r : Int) + M 2 r) (by omega) (by omega), if_pos (by omega), e3]
    rcases hv with rfl | rfl
    · rw [if_pos wI_0, iH 0 (Or.inl rfl), if_pos rfl, if_pos rfl]
    · have z0 := iH 0 (Or.inl rfl)
      rw [if_pos rfl] at z0
      have z1 := iH 1 (Or.inr rfl)
      rw [if_neg (by decide)] at z1
      rw [if_neg (by decide), if_pos (by omega), Int.toNat_natCast, m_row I hr (i := 3 * t) (by omega), wI_R (rw_R I r (3 * t)), I.d0, wI_of (x := M 14 0) (by omega) (by omega), sp_in M (rw_R I r (3 * t)) i0 (by unfold iR; omega), ob]
      dsimp +instances only
      rw [if_neg (show ¬ (1 : Int) = 0 by decide), al_]
      by_cases c1 : 0 ≤ rw_ M r (3 * t) ∧ rw_ M r (3 * t) ≤ M 14 0
      · rw [b2_t c1, if_neg (show ¬ wI 1 = 0 by decide), show ((40 * r + 3 * t : Nat) : Int) + 1 = ((40 * r + (3 * t + 1) : Nat) : Int) by omega, wI_of (x := ((40 * r + (3 * t + 1) : Nat) : Int)) (by omega) (by omega), if_pos (by omega), Int.toNat_natCast, m_row I hr (i := 3 * t + 1) (by omega), sp_isStrip ⟨I.gM.1, I.gM.2.1⟩ (rw_R I r (3 * t + 1)), I.es, ob]
        dsimp +instances only
        by_cases c2 : 0 ≤ rw_ M r (3 * t + 1) ∧ rw_ M r (3 * t + 1) < M 11 0
        · rw [b2_t c2, if_neg (show ¬ wI 1 = 0 by decide), show ((40 * r + 3 * t : Nat) : Int) + 2 = ((40 * r + (3 * t + 2) : Nat) : Int) by omega, wI_of (x := ((40 * r + (3 * t + 2) : Nat) : Int)) (by omega) (by omega), if_pos (by omega), Int.toNat_natCast, m_row I hr (i := 3 * t + 2) (by omega), wI_R (rw_R I r (3 * t + 2)), sp_in M (rw_R I r (3 * t + 2)) i0 i1, ob]
          dsimp +instances only
          by_cases c3 : 0 ≤ rw_ M r (3 * t + 2) ∧ rw_ M r (3 * t + 2) ≤ 1
          · have e1 : bk_ M r t = 1 := b2_t ⟨c1, c2, c3⟩
            rw [b2_t c3, if_neg (show ¬ wI 1 = 0 by decide), e1, if_neg (by decide)]
            exact z1
          · have e1 : bk_ M r t = 0 := b2_f (fun q => c3 q.2.2)
            rw [b2_f c3, if_pos wI_0, e1, if_pos rfl]; exact z0
        · have e1 : bk_ M r t = 0 := b2_f (fun q => c2 q.2.1)
          rw [b2_f c2, if_pos wI_0, e1, if_pos rfl]; exact z0
      · have e1 : bk_ M r t = 0 := b2_f (fun q => c1 q.1)
        rw [b2_f c1, if_pos wI_0, e1, if_pos rfl]; exact z0
theorem sp_am3 {M : am_M} (I : Ib M) {r m : Nat} (hr : r < 6) (hm : ((3 * m : Nat) : Int) = M 2 r) : X_X9_areBooks_53 r M = some (al_ (bk_ M r) m 0, M) := by
  have hs := I.2.1.2.1 r
  have := lp_am3 I hr m 1000 0 1 (Or.inr rfl) (by rw [Nat.zero_add]; exact hm) (by omega)
  rw [if_neg (by decide), show ((40 * r + 3 * 0 : Nat) : Int) = 40 * (r : Int) by omega] at this
  rw [X_X9_areBooks_53, XB_X9_areBooks_53_e]
  exact this
/-! do they fit: the class -/
theorem sp_trailAt {N : am_M} {d : Int} (hd : 0 ≤ d ∧ d ≤ 40) : X_X3_trailAt_47 d N = some (N 51 d.toNat, N) := by
  rw [X_X3_trailAt_47, wI_of (x := d) (by omega) (by omega), if_neg (by omega), if_neg (by omega), if_pos (by omega)]
theorem crw_r (i b : Int) : 0 ≤ crw i b ∧ crw i b ≤ 1 := by unfold crw; split <;> omega
theorem lp_ft {N : am_M} (I : Ib N) {r : Nat} (hr : r < 6) {T : Nat → Int} (hT : ∀ j : Nat, (j : Int) ≤ N 14 0 → N 51 j = T j) (hb : ∀ j, 0 ≤ T j ∧ T j ≤ 12) : ∀ (e n t : Nat), ((3 * (t + e) : Nat) : Int) = N 2 r → e < n → (∀ j, t ≤ j → j < t + e → bk_ N r j ≠ 0) → XL_X3_fits_47_1_1 XB_X3_fits_47_1_5 n r ((3 * t : Nat) : Int) N = some (al_ (ft_ T N r) e t, N) := by
  intro e
  have hs := I.2.1.2.1 r
  have r0 := I.r0
  induction e with
  | zero =>
    intro n t ht hn hB
    obtain ⟨n, rfl⟩ : ∃ m, n = m + 1 := ⟨n - 1, by omega⟩
    rw [XL_X3_fits_47_1_1, XB_X3_fits_47_1_1, c_size I hr, ob]
    dsimp +instances only
    rw [wI_of (x := ((3 * t : Nat) : Int)) (by omega) (by omega), wI_of (x := N 2 r) (by omega) (by omega), if_neg (by omega)]
    rfl
  | succ e ih =>
    intro n t ht hn hB
    obtain ⟨n, rfl⟩ : ∃ m, n = m + 1 := ⟨n - 1, by omega⟩
    have iH := ih n (t + 1) (by rw [← ht]; congr 1; omega) (by omega) (fun j h1 h2 => hB j (by omega) (by omega))
    have hk := hB t (Nat.le_refl _) (by omega)
    unfold bk_ at hk
    rw [ne_eq, b2_0, Classical.not_not] at hk
    obtain ⟨k1, k2, k3⟩ := hk
    have cr := crw_r (rw_ N r (3 * t + 1)) (T (rw_ N r (3 * t)).toNat)
    have hbT := hb (rw_ N r (3 * t)).toNat
    rw [XL_X3_fits_47_1_1, XB_X3_fits_47_1_1, c_size I hr, ob]
    dsimp +instances only
    rw [wI_of (x := ((3 * t : Nat) : Int)) (by omega) (by omega), wI_of (x := N 2 r) (by omega) (by omega), if_pos (by omega), c_get I hr (i := 3 * t) (by omega), ob]
    dsimp +instances only
    rw [sp_trailAt (by omega), ob, hT (rw_ N r (3 * t)).toNat (by omega)]
    dsimp +instances only
    rw [show ((3 * t : Nat) : Int) + 1 = ((3 * t + 1 : Nat) : Int) by omega, c_get I hr (i := 3 * t + 1) (by omega), ob]
    dsimp +instances only
    rw [sp_crownOf _ _ N (rw_R I r (3 * t + 1)) (by unfold iR; omega), ob]
    dsimp +instances only
    rw [show ((3 * t : Nat) : Int) + 2 = ((3 * t + 2 : Nat) : Int) by omega, c_get I hr (i := 3 * t + 2) (by omega), ob]
    dsimp +instances only
    rw [wI_R (rw_R I r (3 * t + 2)), wI_of (x := crw (rw_ N r (3 * t + 1)) (T (rw_ N r (3 * t)).toNat)) (by omega) (by omega), al_, show ((3 * t : Nat) : Int) + 3 = ((3 * (t + 1) : Nat) : Int) by omega]
    by_cases c : crw (rw_ N r (3 * t + 1)) (T (rw_ N r (3 * t)).toNat) = rw_ N r (3 * t + 2)
    · have e1 : ft_ T N r t = 1 := b2_t c
      rw [if_pos c, e1, if_neg (by decide)]
      exact iH
    · have e1 : ft_ T N r t = 0 := b2_f c
      rw [if_neg c, e1, if_pos rfl]
theorem sp_ft {N : am_M} (I : Ib N) {r m : Nat} (hr : r < 6) (hm : ((3 * m : Nat) : Int) = N 2 r) {T : Nat → Int} (hT : ∀ j : Nat, (j : Int) ≤ N 14 0 → N 51 j = T j) (hb : ∀ j, 0 ≤ T j ∧ T j ≤ 12) (hB : al_ (bk_ N r) m 0 = 1) : X_X3_fits_47_1 r N = some (al_ (ft_ T N r) m 0, N) := by
  have hs := I.2.1.2.1 r
  have := lp_ft I hr hT hb m 1000 0 (by rw [Nat.zero_add]; exact hm) (by omega) (al_all hB)
  rw [X_X3_fits_47_1, XB_X3_fits_47_1_e]
  exact this
/-! do they fit: the model -/
theorem lp_mt (k : Int → Int → Int → Int → am_M → am_Rs) {M : am_M} (I : Ib M) {r : Nat} (hr : r < 6) {p : Int} (hp : 0 ≤ p ∧ p ≤ M 11 0) (v2 : Int) : ∀ (e n t : Nat) (v : Int), (v = 0 ∨ v = 1) → ((3 * (t + e) : Nat) : Int) = M 2 r → e < n → (∀ j, t ≤ j → j < t + e → bk_ M r j ≠ 0) → XL_X9_books_53_13 k n r v2 p v ((40 * r + 3 * t : Nat) : Int) M = k r v2 p (if v = 0 then 0 else al_ (ft_ (tB M p) M r) e t) M := by
  intro e
  have hs := I.2.1.2.1 r
  have r0 := I.r0
  have rs := I.rs
  induction e with
  | zero =>
    intro n t v hv ht hn hB
    obtain ⟨n, rfl⟩ : ∃ m, n = m + 1 := ⟨n - 1, by omega⟩
    rw [XL_X9_books_53_13, XB_X9_books_53_13, wI_of (x := (r : Int)) (by omega) (by omega), if_pos (by omega), Int.toNat_natCast, I.2.1.1, wI_of (x := ((40 * r + 3 * t : Nat) : Int)) (by omega) (by omega), wI_of (x := 40 * (r : Int) + M 2 r) (by omega) (by omega), if_neg (by omega)]
    rcases hv with rfl | rfl
    · rfl
    · rfl
  | succ e ih =>
    intro n t v hv ht hn hB
    obtain ⟨n, rfl⟩ : ∃ m, n = m + 1 := ⟨n - 1, by omega⟩
    have iH := fun v hv => ih n (t + 1) v hv (by rw [← ht]; congr 1; omega) (by omega) (fun j h1 h2 => hB j (by omega) (by omega))
    have hk := hB t (Nat.le_refl _) (by omega)
    unfold bk_ at hk
    rw [ne_eq, b2_0, Classical.not_not] at hk
    obtain ⟨k1, k2, k3⟩ := hk
    have z0 := iH 0 (Or.inl rfl)
    rw [if_pos rfl] at z0
    have z1 := iH 1 (Or.inr rfl)
    rw [if_neg (by decide)] at z1
    have hb := tB_r hp (rw_ M r (3 * t)).toNat
    have e3 : ((40 * r + 3 * t : Nat) : Int) + 3 = ((40 * r + 3 * (t + 1) : Nat) : Int) := by omega
    rw [XL_X9_books_53_13, XB_X9_books_53_13, wI_of (x := (r : Int)) (by omega) (by omega), if_pos (by omega), Int.toNat_natCast, I.2.1.1, wI_of (x := ((40 * r + 3 * t : Nat) : Int)) (by omega) (by omega), wI_of (x := 40 * (r : Int) + M 2 r) (by omega) (by omega), if_pos (by omega), e3, show ((40 * r + 3 * t : Nat) : Int) + 1 = ((40 * r + (3 * t + 1) : Nat) : Int) by omega, show ((40 * r + 3 * t : Nat) : Int) + 2 = ((40 * r + (3 * t + 2) : Nat) : Int) by omega, wI_of (x := ((40 * r + (3 * t + 1) : Nat) : Int)) (by omega) (by omega), wI_of (x := ((40 * r + (3 * t + 2) : Nat) : Int)) (by omega) (by omega), if_pos (by omega), if_pos (by omega), Int.toNat_natCast, Int.toNat_natCast, Int.toNat_natCast, m_row I hr (i := 3 * t) (by omega), m_row I hr (i := 3 * t + 1) (by omega), sp_bt I hp k1, ob]
    dsimp +instances only
    rw [m_row I hr (i := 3 * t + 2) (by omega), wI_R (rw_R I r (3 * t + 1)), wI_R (rw_R I r (3 * t + 2)), wI_of (x := tB M p (rw_ M r (3 * t)).toNat) (by omega) (by omega)]
    have ef : ft_ (tB M p) M r t = b2 (crw (rw_ M r (3 * t + 1)) (tB M p (rw_ M r (3 * t)).toNat) = rw_ M r (3 * t + 2)) := rfl
    rcases hv with rfl | rfl
    · rw [if_pos wI_0, if_pos wI_0, ite_self, z0, if_pos rfl]
    · rw [if_neg (show ¬ wI 1 = 0 by decide), if_neg (show ¬ wI 1 = 0 by decide), if_neg (show ¬ (1 : Int) = 0 by decide), al_, ef]
      by_cases c : rw_ M r (3 * t + 1) < tB M p (rw_ M r (3 * t)).toNat
      · rw [if_pos c, if_pos (by omega)]
        have ec : crw (rw_ M r (3 * t + 1)) (tB M p (rw_ M r (3 * t)).toNat) = 0 := if_pos c
        rw [ec]
        by_cases c2 : 0 = rw_ M r (3 * t + 2)
        · rw [if_pos c2, b2_t c2, if_neg (by decide)]; exact z1
        · rw [if_neg c2, b2_f c2, if_pos rfl]; exact z0
      · rw [if_neg c, if_pos (by omega)]
        have ec : crw (rw_ M r (3 * t + 1)) (tB M p (rw_ M r (3 * t)).toNat) = 1 := if_neg c
        rw [ec]
        by_cases c2 : 1 = rw_ M r (3 * t + 2)
        · rw [if_pos c2, b2_t c2, if_neg (by decide)]; exact z1
        · rw [if_neg c2, b2_f c2, if_pos rfl]; exact z0
/-! all the starts -/
noncomputable def bS (M : am_M) (r m : Nat) (i : Nat) (k : Nat) : Prop := k < i ∧ al_ (ft_ (tB M k) M r) m 0 = 1
theorem bS_t {M : am_M} {r m i : Nat} {v : Int} (hi : i < 20) (h : BS v (bS M r m i)) (c : al_ (ft_ (tB M i) M r) m 0 = 1) : BS (b_or_ v (b_shl_ 1 i)) (bS M r m (i + 1)) :=
  (h.or (BS.one (j := (i : Int)) (by omega))).c fun k _ => by
    unfold bS
    constructor
    · rintro (⟨h1, h2⟩ | h1)
      · exact ⟨by omega, h2⟩
      · have : k = i := by omega
        subst this; exact ⟨by omega, c⟩
    · rintro ⟨h1, h2⟩
      by_cases e : k = i
      · right; omega
      · left; exact ⟨by omega, h2⟩
theorem bS_f {M : am_M} {r m i : Nat} {v : Int} (h : BS v (bS M r m i)) (c : al_ (ft_ (tB M i) M r) m 0 = 0) : BS v (bS M r m (i + 1)) :=
  h.c fun k _ => by
    unfold bS
    constructor
    · rintro ⟨h1, h2⟩
      exact ⟨by omega, h2⟩
    · rintro ⟨h1, h2⟩
      by_cases e : k = i
      · subst e; omega
      · exact ⟨by omega, h2⟩
theorem lp_cs {M : am_M} (I : Ib M) {r m : Nat} (hr : r < 6) (hm : ((3 * m : Nat) : Int) = M 2 r) (hB : al_ (bk_ M r) m 0 = 1) : ∀ (e n i : Nat) (v : Int) (f : Nat → Int), BS v (bS M r m i) → (i : Int) + e = M 11 0 + 1 → e < n → ∃ w f', XL_X3_startsThatFit_47_1_1 XB_X3_startsThatFit_47_1_5 n r v i (am_row M 51 f) = some (w, am_row M 51 f') ∧ BS w (bS M r m (i + e)) := by
  intro e
  have rs := I.rs
  induction e with
  | zero =>
    intro n i v f hv hi hn
    obtain ⟨n, rfl⟩ : ∃ m, n = m + 1 := ⟨n - 1, by omega⟩
    refine ⟨v, f, ?_, hv⟩
    rw [XL_X3_startsThatFit_47_1_1, XB_X3_startsThatFit_47_1_1, row_a (by decide), wI_of (x := M 11 0) (by omega) (by omega), wI_of (x := (i : Int)) (by omega) (by omega), if_pos (by omega)]
    rfl
  | succ e ih =>
    intro n i v f hv hi hn
    obtain ⟨n, rfl⟩ : ∃ m, n = m + 1 := ⟨n - 1, by omega⟩
    obtain ⟨f1, a1, a2⟩ := sp_rt_11 I.g11 I.r0 I.said (p := (i : Int)) (by omega) f
    have I1 : Ib (am_row M 51 f1) := Kb.ib I (Kp.row (by decide)).b
    have b1 := sp_ft I1 (r := r) (m := m) hr (by rw [row_a (by decide)]; exact hm) (T := tB M i) (fun j hj => by
      rw [row_s]
      rw [row_a (by decide)] at hj
      exact a2 j hj) (fun j => by have := tB_r (M := M) (p := (i : Int)) (by omega) j; omega) hB
    have b2' : X_X3_fits_47_1 r (am_row M 51 f1) = some (al_ (ft_ (tB M i) M r) m 0, am_row M 51 f1) := b1
    rw [XL_X3_startsThatFit_47_1_1, XB_X3_startsThatFit_47_1_1, row_a (by decide), wI_of (x := M 11 0) (by omega) (by omega), wI_of (x := (i : Int)) (by omega) (by omega), if_neg (by omega), a1, ob]
    dsimp +instances only
    rw [b2', ob]
    dsimp +instances only
    rw [show (i : Int) + 1 = ((i + 1 : Nat) : Int) by omega, show i + (e + 1) = i + 1 + e by omega]
    rcases al_01 (ft_ (tB M i) M r) m 0 with c | c
    · rw [c, if_pos wI_0]
      exact ih n (i + 1) v f1 (bS_f hv c) (by push_cast; omega) (by omega)
    · rw [c, if_neg (by decide)]
      exact ih n (i + 1) _ f1 (bS_t (by omega) hv c) (by push_cast; omega) (by omega)
theorem sp_cs {M : am_M} (I : Ib M) {r m : Nat} (hr : r < 6) (hm : ((3 * m : Nat) : Int) = M 2 r) (hB : al_ (bk_ M r) m 0 = 1) : ∃ w f', X_X3_startsThatFit_47_1 r M = some (w, am_row M 51 f') ∧ BS w (bS M r m (M 11 0 + 1).toNat) := by
  have rs := I.rs
  obtain ⟨w, f', a1, a2⟩ := lp_cs I hr hm hB (M 11 0 + 1).toNat 1000 0 0 (M 51) (BS.z.c fun k _ => ⟨fun h => h.elim, fun h => absurd h.1 (Nat.not_lt_zero _)⟩) (by omega) (by omega)
  rw [row_self, show ((0 : Nat) : Int) = 0 from rfl] at a1
  rw [Nat.zero_add] at a2
  refine ⟨w, f', ?_, a2⟩
  rw [X_X3_startsThatFit_47_1, XB_X3_startsThatFit_47_1_e]
  exact a1
theorem lp_ms {M : am_M} (I : Ib M) {r m : Nat} (hr : r < 6) (hm : ((3 * m : Nat) : Int) = M 2 r) (hB : al_ (bk_ M r) m 0 = 1) : ∀ (e n i : Nat) (v : Int), BS v (bS M r m i) → (i : Int) + e = M 11 0 + 1 → e < n → ∃ w, XL_X9_books_53_11 XB_X9_books_53_26 n r v i M = some (w, M) ∧ BS w (bS M r m (i + e)) := by
  intro e
  have rs := I.rs
  have hs := I.2.1.2.1 r
  induction e with
  | zero =>
    intro n i v hv hi hn
    obtain ⟨n, rfl⟩ : ∃ m, n = m + 1 := ⟨n - 1, by omega⟩
    refine ⟨v, ?_, hv⟩
    rw [XL_X9_books_53_11, XB_X9_books_53_11, I.es, wI_of (x := M 11 0) (by omega) (by omega), wI_of (x := (i : Int)) (by omega) (by omega), if_pos (by omega)]
    rfl
  | succ e ih =>
    intro n i v hv hi hn
    obtain ⟨n, rfl⟩ : ∃ m, n = m + 1 := ⟨n - 1, by omega⟩
    have b1 := lp_mt (XB_X9_books_53_22 (XL_X9_books_53_11 XB_X9_books_53_26 n)) I hr (p := (i : Int)) (by omega) v m 1000 0 1 (Or.inr rfl) (by rw [Nat.zero_add]; exact hm) (by omega) (al_all hB)
    rw [if_neg (by decide), show ((40 * r + 3 * 0 : Nat) : Int) = 40 * (r : Int) by omega] at b1
    rw [XL_X9_books_53_11, XB_X9_books_53_11, I.es, wI_of (x := M 11 0) (by omega) (by omega), wI_of (x := (i : Int)) (by omega) (by omega), if_neg (by omega), b1, XB_X9_books_53_22, show (i : Int) + 1 = ((i + 1 : Nat) : Int) by omega, show i + (e + 1) = i + 1 + e by omega]
    rcases al_01 (ft_ (tB M i) M r) m 0 with c | c
    · rw [c, if_pos wI_0]
      exact ih n (i + 1) _ (bS_f ((hv.or BS.z).c fun k _ => by simp) c) (by push_cast; omega) (by omega)
    · rw [c, if_neg (by decide)]
      exact ih n (i + 1) _ (bS_t (by omega) hv c) (by push_cast; omega) (by omega)
theorem eq_books {M : am_M} (I : Inv M) {r : Int} (hr : iR r) : Step (X_X8_books_0 r) (X_X9_books_53 r) M := gd_books I hr fun h1 h2 h3 => by
  obtain ⟨r, rfl⟩ := Int.eq_ofNat_of_zero_le h1.1
  rw [Int.toNat_natCast] at h3
  have h6 : r < 6 := by omega
  have hs := I.2.1.2.1 r
  have rs := I.rs
  have tm : ∀ _ : Unit, wI ((M 2 r).tmod 3) = M 2 r % 3 := fun _ => by rw [Int.tmod_eq_emod_of_nonneg h3]; exact wI_of (by omega) (by omega)
  have es57 : ∀ N : am_M, Kb M N → N 57 r = M 2 r := fun N k => by rw [k.1 57 (by decide), I.2.1.1]
  have es53 : ∀ N : am_M, Kb M N → N 53 1 = M 11 0 := fun N k => by rw [k.2.1, I.es]
  have c0 : X_X8_books_0 r M = if M 2 r % 3 = 0 then (X_X3_areBooks_47_1 r M).bind fun z5 => if wI z5.1 = 0 then (X_X8_find_0 3 z5.2).bind fun z6 => some (z6.1, z6.2) else (X_X3_startsThatFit_47_1 r z5.2).bind fun z6 => some (z6.1, z6.2) else (X_X8_find_0 5 M).bind fun z5 => some (z5.1, z5.2) := by
    rw [X_X8_books_0, sp_isNumber_1 I.sh1 hr, b2_t h1, ob]
    dsimp +instances only
    rw [if_neg (by decide), sp_hasNoLand I.g11, b2_f h2, ob]
    dsimp +instances only
    rw [if_pos wI_0, sp_isThere_1 I.sh1 h1, Int.toNat_natCast, b2_t h3, ob]
    dsimp +instances only
    rw [if_neg (by decide), c_size I.b h6, ob]
    dsimp +instances only
    rw [wI_of (x := M 2 r) (by omega) (by omega), tm ()]
  have m0 : ∀ N : am_M, Kb M N → X_X9_books_53 r N = if M 2 r % 3 = 0 then (X_X9_areBooks_53 r N).bind fun z2 => if wI z2.1 = 0 then (X_X9_find_53 3 z2.2).bind fun z3 => some (z3.1, z3.2) else XL_X9_books_53_11 XB_X9_books_53_26 1000 r 0 0 z2.2 else (X_X9_find_53 5 N).bind fun z2 => some (z2.1, z2.2) := by
    intro N k
    rw [X_X9_books_53, XB_X9_books_53_e, sp_isRow N hr, b2_t h1, ob]
    dsimp +instances only
    rw [if_neg (by decide), es53 N k, wI_of (x := M 11 0) (by omega) (by omega), if_neg h2, wI_of (x := (r : Int)) (by omega) (by omega), Int.toNat_natCast, es57 N k, wI_of (x := M 2 r) (by omega) (by omega), if_pos (by omega), if_neg (by omega), if_pos (by omega), tm ()]
  by_cases c3 : M 2 r % 3 = 0
  · obtain ⟨m, hm⟩ : ∃ m : Nat, ((3 * m : Nat) : Int) = M 2 r := ⟨(M 2 r / 3).toNat, by omega⟩
    have bkN : ∀ N : am_M, Kb M N → bk_ N r = bk_ M r := fun N k => by
      funext t
      unfold bk_ rw_
      rw [k.1 3 (by decide), k.1 14 (by decide), k.1 11 (by decide)]
    rw [if_pos c3, sp_ab I.b h6 hm, ob] at c0
    dsimp +instances only at c0
    rcases al_01 (bk_ M r) m 0 with c | c
    · rw [c, if_pos wI_0, f_c3, ob] at c0
      refine st_find I (f := 3) c0 ?_
      have k := Kb.cf M 3
      have m1 := m0 _ k
      rw [if_pos c3, sp_am3 (Kb.ib I.b k) h6 (m := m) (by rw [hm, k.1 2 (by decide)]), bkN _ k, c, ob] at m1
      dsimp +instances only at m1
      rw [if_pos wI_0, f_m3, ob] at m1
      exact m1
    · obtain ⟨w, f', a1, a2⟩ := sp_cs I.b h6 hm c
      rw [c, if_neg (by decide), a1, ob] at c0
      have k : Kp M (am_row M 51 f') := Kp.row (by decide)
      have I1 : Ib (am_row M 51 f') := Kb.ib I.b k.b
      obtain ⟨w2, d1, d2⟩ := lp_ms I1 h6 (m := m) (by rw [hm, k.b.1 2 (by decide)]) (by rw [bkN _ k.b, c]) (M 11 0 + 1).toNat 1000 0 0 (BS.z.c fun k _ => ⟨fun h => h.elim, fun h => absurd h.1 (Nat.not_lt_zero _)⟩) (by rw [k.b.1 11 (by decide)]; omega) (by omega)
      rw [Nat.zero_add] at d2
      have m1 := m0 _ k.b
      rw [if_pos c3, sp_am3 I1 h6 (m := m) (by rw [hm, k.b.1 2 (by decide)]), bkN _ k.b, c, ob] at m1
      dsimp +instances only at m1
      rw [if_neg (by decide)] at m1
      refine st_kp I c0 k (m1.trans d1) (Kp.rf _) (a2.w ?_)
      exact d2
  · rw [if_neg c3, f_c5, ob] at c0
    refine st_find I (f := 5) c0 ?_
    have m1 := m0 _ (Kb.cf M 5)
    rw [if_neg c3, f_m5, ob] at m1
    exact m1
