section
/-! Books: which starts fit them. -/
noncomputable def tr_ (F : Int → Int → Int → Int → Int) (a b : Nat → Int) (p : Int) : Nat → Int
  | 0 => p
  | n + 1 => F (tr_ F a b p n) n (a n) (b n)
theorem tr_r {F : Int → Int → Int → Int → Int} {a b : Nat → Int} {s p : Int} (hF : ∀ b d x y, (0 ≤ b ∧ b ≤ s) → 0 ≤ F b d x y ∧ F b d x y ≤ s) (hp : 0 ≤ p ∧ p ≤ s) : ∀ n, 0 ≤ tr_ F a b p n ∧ tr_ F a b p n ≤ s
  | 0 => hp
  | n + 1 => hF _ _ _ _ (tr_r hF hp n)
theorem lp_rt_11 {M : am_M} (g : Gd11 M) (hd : 0 ≤ M 14 0 ∧ M 14 0 ≤ 40) (hS : ∀ j, (0 ≤ M 15 j ∧ M 15 j ≤ 3) ∧ (0 ≤ M 16 j ∧ M 16 j ≤ 3)) {p : Int} (hp : 0 ≤ p ∧ p ≤ M 11 0) : ∀ (e n i : Nat) (f : Nat → Int), (i : Int) + e = M 14 0 → e < n → (∀ j, j ≤ i → f j = tr_ (aft (M 11 0) (M 12)) (M 15) (M 16) p j) → ∃ f', XL_X1_retrace_14_11_51_3 XB_X1_retrace_14_11_51_6 n i (am_row M 51 f) = some (0, am_row M 51 f') ∧ ∀ j : Nat, (j : Int) ≤ M 14 0 → f' j = tr_ (aft (M 11 0) (M 12)) (M 15) (M 16) p j := by
  intro e
  induction e with
  | zero =>
    intro n i f hi hn hf
    obtain ⟨n, rfl⟩ : ∃ m, n = m + 1 := ⟨n - 1, by omega⟩
    refine ⟨f, ?_, fun j hj => hf j (by omega)⟩
    rw [XL_X1_retrace_14_11_51_3, XB_X1_retrace_14_11_51_3, row_a (by decide), wI_of (x := (i : Int)) (by omega) (by omega), wI_of (x := M 14 0) (by omega) (by omega), if_neg (by omega)]
    rfl
  | succ e ih =>
    intro n i f hi hn hf
    obtain ⟨n, rfl⟩ : ∃ m, n = m + 1 := ⟨n - 1, by omega⟩
    have g' : Gd11 (am_row M 51 f) := by
      unfold Gd11 at g ⊢
      rw [row_a (by decide), row_a (by decide), row_a (by decide)]; exact g
    have hb : 0 ≤ f i ∧ f i ≤ M 11 0 := by
      rw [hf i (Nat.le_refl _)]
      exact tr_r (fun b d x y h => aft_r h) hp i
    have b := sp_borderAfter_11 g' (b := f i) (day := (i : Int)) (x := M 15 i) (y := M 16 i) (by rw [row_a (by decide)]; exact hb) (by omega) (hS i).1 (hS i).2
    rw [row_a (by decide), row_a (by decide)] at b
    obtain ⟨x, hx⟩ : ∃ x, x = aft (M 11 0) (M 12) (f i) i (M 15 i) (M 16 i) := ⟨_, rfl⟩
    rw [← hx] at b
    obtain ⟨f', c1, c2⟩ := ih n (i + 1) (fun j => if j = i + 1 then x else f j) (by push_cast; omega) (by omega) (fun j hj => by
      by_cases c : j = i + 1
      · rw [if_pos c, c, tr_, hx, hf i (Nat.le_refl _)]
      · rw [if_neg c, hf j (by omega)])
    refine ⟨f', ?_, c2⟩
    rw [← c1, XL_X1_retrace_14_11_51_3, XB_X1_retrace_14_11_51_3, row_a (a' := 14) (by decide), row_s, row_a (a' := 15) (by decide), row_a (a' := 16) (by decide), wI_of (x := (i : Int)) (by omega) (by omega), wI_of (x := M 14 0) (by omega) (by omega), if_pos (by omega), if_pos (by omega), if_pos (by omega), if_pos (by omega), if_pos (by omega), Int.toNat_natCast, b, ob]
    dsimp +instances only
    rw [show (i : Int) + 1 = ((i + 1 : Nat) : Int) by omega, wI_of (x := ((i + 1 : Nat) : Int)) (by omega) (by omega), if_pos (by omega), Int.toNat_natCast, up_row, row_row, row_s]
theorem sp_rt_11 {M : am_M} (g : Gd11 M) (hd : 0 ≤ M 14 0 ∧ M 14 0 ≤ 40) (hS : ∀ j, (0 ≤ M 15 j ∧ M 15 j ≤ 3) ∧ (0 ≤ M 16 j ∧ M 16 j ≤ 3)) {p : Int} (hp : 0 ≤ p ∧ p ≤ M 11 0) (f : Nat → Int) : ∃ f', X_X1_retrace_14_11_51 p (am_row M 51 f) = some (0, am_row M 51 f') ∧ ∀ j : Nat, (j : Int) ≤ M 14 0 → f' j = tr_ (aft (M 11 0) (M 12)) (M 15) (M 16) p j := by
  obtain ⟨f', c1, c2⟩ := lp_rt_11 g hd hS hp (M 14 0).toNat 1000 0 (fun j => if j = 0 then p else f j) (by omega) (by omega) (fun j hj => by
    have : j = 0 := by omega
    rw [if_pos this, this, tr_])
  refine ⟨f', ?_, c2⟩
  rw [X_X1_retrace_14_11_51, XB_X1_retrace_14_11_51_e, up_row, row_row, row_s]
  exact c1
theorem Ib.said {M : am_M} (I : Ib M) : ∀ j, (0 ≤ M 15 j ∧ M 15 j ≤ 3) ∧ (0 ≤ M 16 j ∧ M 16 j ≤ 3) := I.2.2.2.2.2.1.1
theorem Ib.word {M : am_M} (I : Ib M) {j : Nat} (h : (j : Int) < M 14 0) : M 54 (40 + j) = 4 * M 15 j + M 16 j := by
  have := (I.2.2.2.2.2.1.2 j h).1
  rw [Nat.zero_add] at this; exact this
noncomputable def tB (M : am_M) (p : Int) : Nat → Int := tr_ (af_ M) (M 15) (M 16) p
theorem tB_r {M : am_M} {p : Int} (hp : 0 ≤ p ∧ p ≤ M 11 0) (n : Nat) : 0 ≤ tB M p n ∧ tB M p n ≤ M 11 0 := tr_r (fun _ _ _ _ h => af_r h) hp n
/-! the model's way to a day -/
theorem lp_bt (k : Int → am_M → am_Rs) {M : am_M} (I : Ib M) {p : Int} (hp : 0 ≤ p ∧ p ≤ M 11 0) {d : Nat} (hd : (d : Int) ≤ M 14 0) : ∀ (e n i : Nat), i + e = d → e < n → XL_X9_broughtTo_53_1 k n d (tB M p i) i M = k (tB M p d) M := by
  intro e
  have r0 := I.r0
  induction e with
  | zero =>
    intro n i hi hn
    obtain ⟨n, rfl⟩ : ∃ m, n = m + 1 := ⟨n - 1, by omega⟩
    have : i = d := by omega
    subst this
    rw [XL_X9_broughtTo_53_1, XB_X9_broughtTo_53_1, if_neg (by omega)]
  | succ e ih =>
    intro n i hi hn
    obtain ⟨n, rfl⟩ : ∃ m, n = m + 1 := ⟨n - 1, by omega⟩
    have hS := I.said i
    have rs := I.rs
    have u1 : ∀ _ : Unit, (wI (4 * M 15 i + M 16 i)).tdiv 4 = M 15 i := fun _ => by rw [wI_of (by omega) (by omega), Int.tdiv_eq_ediv_of_nonneg (by omega)]; omega
    have u2 : ∀ _ : Unit, (wI (4 * M 15 i + M 16 i)).tmod 4 = M 16 i := fun _ => by rw [wI_of (by omega) (by omega), Int.tmod_eq_emod_of_nonneg (by omega)]; omega
    rw [XL_X9_broughtTo_53_1, XB_X9_broughtTo_53_1, wI_of (x := (i : Int)) (by omega) (by omega), wI_of (x := (d : Int)) (by omega) (by omega), if_pos (by omega), show (40 : Int) + i = ((40 + i : Nat) : Int) by omega, wI_of (x := ((40 + i : Nat) : Int)) (by omega) (by omega), if_pos (by omega), if_pos (by omega), Int.toNat_natCast, I.word (by omega), u1 (), u2 (), m_aft I (tB_r hp i) (by omega) hS.1 hS.2, ob]
    dsimp +instances only
    rw [show (i : Int) + 1 = ((i + 1 : Nat) : Int) by omega]
    exact ih n (i + 1) (by omega) (by omega)
theorem sp_bt {M : am_M} (I : Ib M) {p : Int} (hp : 0 ≤ p ∧ p ≤ M 11 0) {d : Int} (hd : 0 ≤ d ∧ d ≤ M 14 0) : X_X9_broughtTo_53 p d M = some (tB M p d.toNat, M) := by
  have r0 := I.r0
  obtain ⟨d, rfl⟩ := Int.eq_ofNat_of_zero_le hd.1
  have := lp_bt XB_X9_broughtTo_53_3 I hp hd.2 d 1000 0 (Nat.zero_add _) (by omega)
  rw [X_X9_broughtTo_53, XB_X9_broughtTo_53_e, Int.toNat_natCast]
  exact this
/-! entries -/
noncomputable def bk_ (M : am_M) (r t : Nat) : Int := b2 ((0 ≤ rw_ M r (3 * t) ∧ rw_ M r (3 * t) ≤ M 14 0) ∧ (0 ≤ rw_ M r (3 * t + 1) ∧ rw_ M r (3 * t + 1) < M 11 0) ∧ 0 ≤ rw_ M r (3 * t + 2) ∧ rw_ M r (3 * t + 2) ≤ 1)
noncomputable def ft_ (T : Nat → Int) (M : am_M) (r t : Nat) : Int := b2 (crw (rw_ M r (3 * t + 1)) (T (rw_ M r (3 * t)).toNat) = rw_ M r (3 * t + 2))
noncomputable def al_ (q : Nat → Int) : Nat → Nat → Int
  | 0, _ => 1
  | e + 1, t => if q t = 0 then 0 else al_ q e (t + 1)
theorem al_01 (q : Nat → Int) : ∀ e t, al_ q e t = 0 ∨ al_ q e t = 1
  | 0, t => Or.inr rfl
  | e + 1, t => by
    rw [al_]
    by_cases c : q t = 0
    · rw [if_pos c]; exact Or.inl rfl
    · rw [if_neg c]; exact al_01 q e (t + 1)
theorem al_all {q : Nat → Int} : ∀ {e t : Nat}, al_ q e t = 1 → ∀ j, t ≤ j → j < t + e → q j ≠ 0
  | 0, t, _, j, h1, h2 => by omega
  | e + 1, t, h, j, h1, h2 => by
    rw [al_] at h
    by_cases c : q t = 0
    · rw [if_pos c] at h; omega
    · rw [if_neg c] at h
      rcases Nat.lt_or_eq_of_le h1 with h3 | h3
      · exact al_all h j h3 (by omega)
      · subst h3; exact c
/-! are they books: the class -/
theorem lp_ab {M : am_M} (I : Ib M) {r : Nat} (hr : r < 6) : ∀ (e n t : Nat), ((3 * (t + e) : Nat) : Int) = M 2 r → e < n → XL_X3_areBooks_47_1_1 XB_X3_areBooks_47_1_4 XB_X3_areBooks_47_1_7 XB_X3_areBooks_47_1_9 n r ((3 * t : Nat) : Int) M = some (al_ (bk_ M r) e t, M) := by
  intro e
  have hs := I.2.1.2.1 r
  have r0 := I.r0
  induction e with
  | zero =>
    intro n t ht hn
    obtain ⟨n, rfl⟩ : ∃ m, n = m + 1 := ⟨n - 1, by omega⟩
    rw [XL_X3_areBooks_47_1_1, XB_X3_areBooks_47_1_1, c_size I hr, ob]
    dsimp +instances only
    rw [wI_of (x := ((3 * t : Nat) : Int)) (by omega) (by omega), wI_of (x := M 2 r) (by omega) (by omega), if_neg (by omega)]
    rfl
  | succ e ih =>
    intro n t ht hn
    obtain ⟨n, rfl⟩ : ∃ m, n = m + 1 := ⟨n - 1, by omega⟩
    have i1 := ih n (t + 1) (by rw [← ht]; congr 1; omega) (by omega)
    rw [XL_X3_areBooks_47_1_1, XB_X3_areBooks_47_1_1, c_size I hr, ob]
    dsimp +instances only
    rw [wI_of (x := ((3 * t : Nat) : Int)) (by omega) (by omega), wI_of (x := M 2 r) (by omega) (by omega), if_pos (by omega), c_get I hr (i := 3 * t) (by omega), ob]
    dsimp +instances only
    rw [wI_R (rw_R I r (3 * t)), wI_of (x := M 14 0) (by omega) (by omega), al_]
    by_cases c1 : 0 ≤ rw_ M r (3 * t) ∧ rw_ M r (3 * t) ≤ M 14 0
    · rw [if_neg (by omega), if_neg (by omega), show ((3 * t : Nat) : Int) + 1 = ((3 * t + 1 : Nat) : Int) by omega, c_get I hr (i := 3 * t + 1) (by omega), ob]
      dsimp +instances only
      rw [sp_has_11 I.g11 (rw_R I r (3 * t + 1)), ob]
      dsimp +instances only
      by_cases c2 : 0 ≤ rw_ M r (3 * t + 1) ∧ rw_ M r (3 * t + 1) < M 11 0
      · rw [b2_t c2, if_neg (by decide), show ((3 * t : Nat) : Int) + 2 = ((3 * t + 2 : Nat) : Int) by omega, c_get I hr (i := 3 * t + 2) (by omega), ob]
        dsimp +instances only
        rw [sp_isCrown M (rw_R I r (3 * t + 2)), ob]
        dsimp +instances only
        by_cases c3 : 0 ≤ rw_ M r (3 * t + 2) ∧ rw_ M r (3 * t + 2) ≤ 1
        · have e1 : bk_ M r t = 1 := b2_t ⟨c1, c2, c3⟩
          rw [b2_t c3, if_neg (by decide), e1, if_neg (by decide), show ((3 * t : Nat) : Int) + 3 = ((3 * (t + 1) : Nat) : Int) by omega]
          exact i1
        · have e1 : bk_ M r t = 0 := b2_f (fun q => c3 q.2.2)
          rw [b2_f c3, if_pos wI_0, e1, if_pos rfl]; rfl
      · have e1 : bk_ M r t = 0 := b2_f (fun q => c2 q.2.1)
        rw [b2_f c2, if_pos wI_0, e1, if_pos rfl]; rfl
    · have e1 : bk_ M r t = 0 := b2_f (fun q => c1 q.1)
      rw [e1, if_pos rfl]
      by_cases c4 : rw_ M r (3 * t) < 0
      · rw [if_pos c4]; rfl
      · rw [if_neg c4, if_pos (by omega)]; rfl
theorem sp_ab {M : am_M} (I : Ib M) {r m : Nat} (hr : r < 6) (hm : ((3 * m : Nat) : Int) = M 2 r) : X_X3_areBooks_47_1 r M = some (al_ (bk_ M r) m 0, M) := by
  have hs := I.2.1.2.1 r
  have := lp_ab I hr m 1000 0 (by rw [Nat.zero_add]; exact hm) (by omega)
  rw [X_X3_areBooks_47_1, XB_X3_areBooks_47_1_e]
  exact this
/-! are they books: the model -/
theorem lp_am3 {M : am_M} (I : Ib M) {r : Nat} (hr : r < 6) : ∀ (e n t : Nat) (v : Int), (v = 0 ∨ v = 1) → ((3 * (t + e) : Nat) : Int) = M 2 r → e < n → XL_X9_areBooks_53_1 XB_X9_areBooks_53_9 n r v ((40 * r + 3 * t : Nat) : Int) M = some (if v = 0 then 0 else al_ (bk_ M r) e t, M) := by
  intro e
  have hs := I.2.1.2.1 r
  have r0 := I.r0
  have rs := I.rs
  induction e with
  | zero =>
    intro n t v hv ht hn
    obtain ⟨n, rfl⟩ : ∃ m, n = m + 1 := ⟨n - 1, by omega⟩
    rw [XL_X9_areBooks_53_1, XB_X9_areBooks_53_1, wI_of (x := (r : Int)) (by omega) (by omega), if_pos (by omega), Int.toNat_natCast, I.2.1.1, wI_of (x := ((40 * r + 3 * t : Nat) : Int)) (by omega) (by omega), wI_of (x := 40 * (r : Int) + M 2 r) (by omega) (by omega), if_neg (by omega), XB_X9_areBooks_53_9, if_pos hv]
    rcases hv with rfl | rfl
    · rfl
    · rfl
  | succ e ih =>
    intro n t v hv ht hn
    obtain ⟨n, rfl⟩ : ∃ m, n = m + 1 := ⟨n - 1, by omega⟩
    have iH := fun v hv => ih n (t + 1) v hv (by rw [← ht]; congr 1; omega) (by omega)
    have e3 : ((40 * r + 3 * t : Nat) : Int) + 3 = ((40 * r + 3 * (t + 1) : Nat) : Int) := by omega
    rw [XL_X9_areBooks_53_1, XB_X9_areBooks_53_1, wI_of (x := (r : Int)) (by omega) (by omega), if_pos (by omega), Int.toNat_natCast, I.2.1.1, wI_of (x := ((40 * r + 3 * t : Nat) : Int)) (by omega) (by omega), wI_of (x := 40 * (r : Int) + M 2 r) (by omega) (by omega), if_pos (by omega), e3]
    rcases hv with rfl | rfl
    · rw [if_pos wI_0, iH 0 (Or.inl rfl), if_pos rfl, if_pos rfl]
    · have z0 := iH 0 (Or.inl rfl)
      rw [if_pos rfl] at z0
      have z1 := iH 1 (Or.inr rfl)
      rw [if_neg (by decide)] at z1
      rw [if_neg (by decide), if_pos (by omega), Int.toNat_natCast, m_row I hr (i := 3 * t) (by omega), wI_R (rw_R I r (3 * t)), I.d0, wI_of (x := M 14 0) (by omega) (by omega), sp_in M (rw_R I r (3 * t)) i0 (by unfold iR; omega), ob]
      dsimp +instances only
      rw [if_neg (show ¬ (1 : Int) = 0 by decide), al_]
      by_cases c1 : 0 ≤ rw_ M r (3 * t) ∧ rw_ M r (3 * t) ≤ M 14 0
      · rw [b2_t c1, if_neg (show ¬ wI 1 = 0 by decide), show ((40 * r + 3 * t : Nat) : Int) + 1 = ((40 * r + (3 * t + 1) : Nat) : Int) by omega, wI_of (x := ((40 * r + (3 * t + 1) : Nat) : Int)) (by omega) (by omega), if_pos (by omega), Int.toNat_natCast, m_row I hr (i := 3 * t + 1) (by omega), sp_isStrip ⟨I.gM.1, I.gM.2.1⟩ (rw_R I r (3 * t + 1)), I.es, ob]
        dsimp +instances only
        by_cases c2 : 0 ≤ rw_ M r (3 * t + 1) ∧ rw_ M r (3 * t + 1) < M 11 0
        · rw [b2_t c2, if_neg (show ¬ wI 1 = 0 by decide), show ((40 * r + 3 * t : Nat) : Int) + 2 = ((40 * r + (3 * t + 2) : Nat) : Int) by omega, wI_of (x := ((40 * r + (3 * t + 2) : Nat) : Int)) (by omega) (by omega), if_pos (by omega), Int.toNat_natCast, m_row I hr (i := 3 * t + 2) (by omega), wI_R (rw_R I r (3 * t + 2)), sp_in M (rw_R I r (3 * t + 2)) i0 i1, ob]
          dsimp +instances only
          by_cases c3 : 0 ≤ rw_ M r (3 * t + 2) ∧ rw_ M r (3 * t + 2) ≤ 1
          · have e1 : bk_ M r t = 1 := b2_t ⟨c1, c2, c3⟩
            rw [b2_t c3, if_neg (show ¬ wI 1 = 0 by decide), e1, if_neg (by decide)]
            exact z1
          · have e1 : bk_ M r t = 0 := b2_f (fun q => c3 q.2.2)
            rw [b2_f c3, if_pos wI_0, e1, if_pos rfl]; exact z0
        · have e1 : bk_ M r t = 0 := b2_f (fun q => c2 q.2.1)
          rw [b2_f c2, if_pos wI_0, e1, if_pos rfl]; exact z0
      · have e1 : bk_ M r t = 0 := b2_f (fun q => c1 q.1)
        rw [b2_f c1, if_pos wI_0, e1, if_pos rfl]; exact z0
theorem sp_am3 {M : am_M} (I : Ib M) {r m : Nat} (hr : r < 6) (hm : ((3 * m : Nat) : Int) = M 2 r) : X_X9_areBooks_53 r M = some (al_ (bk_ M r) m 0, M) := by
  have hs := I.2.1.2.1 r
  have := lp_am3 I hr m 1000 0 1 (Or.inr rfl) (by rw [Nat.zero_add]; exact hm) (by omega)
  rw [if_neg (by decide), show ((40 * r + 3 * 0 : Nat) : Int) = 40 * (r : Int) by omega] at this
  rw [X_X9_areBooks_53, XB_X9_areBooks_53_e]
  exact this
/-! do they fit: the class -/
theorem sp_trailAt {N : am_M} {d : Int} (hd : 0 ≤ d ∧ d ≤ 40) : X_X3_trailAt_47 d N = some (N 51 d.toNat, N) := by
  rw [X_X3_trailAt_47, wI_of (x := d) (by omega) (by omega), if_neg (by omega), if_neg (by omega), if_pos (by omega)]
theorem crw_r (i b : Int) : 0 ≤ crw i b ∧ crw i b ≤ 1 := by unfold crw; split <;> omega
theorem lp_ft {N : am_M} (I : Ib N) {r : Nat} (hr : r < 6) {T : Nat → Int} (hT : ∀ j : Nat, (j : Int) ≤ N 14 0 → N 51 j = T j) (hb : ∀ j, 0 ≤ T j ∧ T j ≤ 12) : ∀ (e n t : Nat), ((3 * (t + e) : Nat) : Int) = N 2 r → e < n → (∀ j, t ≤ j → j < t + e → bk_ N r j ≠ 0) → XL_X3_fits_47_1_1 XB_X3_fits_47_1_5 n r ((3 * t : Nat) : Int) N = some (al_ (ft_ T N r) e t, N) := by
  intro e
  have hs := I.2.1.2.1 r
  have r0 := I.r0
  induction e with
  | zero =>
    intro n t ht hn hB
    obtain ⟨n, rfl⟩ : ∃ m, n = m + 1 := ⟨n - 1, by omega⟩
    rw [XL_X3_fits_47_1_1, XB_X3_fits_47_1_1, c_size I hr, ob]
    dsimp +instances only
    rw [wI_of (x := ((3 * t : Nat) : Int)) (by omega) (by omega), wI_of (x := N 2 r) (by omega) (by omega), if_neg (by omega)]
    rfl
  | succ e ih =>
    intro n t ht hn hB
    obtain ⟨n, rfl⟩ : ∃ m, n = m + 1 := ⟨n - 1, by omega⟩
    have iH := ih n (t + 1) (by rw [← ht]; congr 1; omega) (by omega) (fun j h1 h2 => hB j (by omega) (by omega))
    have hk := hB t (Nat.le_refl _) (by omega)
    unfold bk_ at hk
    rw [ne_eq, b2_0, Classical.not_not] at hk
    obtain ⟨k1, k2, k3⟩ := hk
    have cr := crw_r (rw_ N r (3 * t + 1)) (T (rw_ N r (3 * t)).toNat)
    have hbT := hb (rw_ N r (3 * t)).toNat
    rw [XL_X3_fits_47_1_1, XB_X3_fits_47_1_1, c_size I hr, ob]
    dsimp +instances only
    rw [wI_of (x := ((3 * t : Nat) : Int)) (by omega) (by omega), wI_of (x := N 2 r) (by omega) (by omega), if_pos (by omega), c_get I hr (i := 3 * t) (by omega), ob]
    dsimp +instances only
    rw [sp_trailAt (by omega), ob, hT (rw_ N r (3 * t)).toNat (by omega)]
    dsimp +instances only
    rw [show ((3 * t : Nat) : Int) + 1 = ((3 * t + 1 : Nat) : Int) by omega, c_get I hr (i := 3 * t + 1) (by omega), ob]
    dsimp +instances only
    rw [sp_crownOf _ _ N (rw_R I r (3 * t + 1)) (by unfold iR; omega), ob]
    dsimp +instances only
    rw [show ((3 * t : Nat) : Int) + 2 = ((3 * t + 2 : Nat) : Int) by omega, c_get I hr (i := 3 * t + 2) (by omega), ob]
    dsimp +instances only
    rw [wI_R (rw_R I r (3 * t + 2)), wI_of (x := crw (rw_ N r (3 * t + 1)) (T (rw_ N r (3 * t)).toNat)) (by omega) (by omega), al_, show ((3 * t : Nat) : Int) + 3 = ((3 * (t + 1) : Nat) : Int) by omega]
    by_cases c : crw (rw_ N r (3 * t + 1)) (T (rw_ N r (3 * t)).toNat) = rw_ N r (3 * t + 2)
    · have e1 : ft_ T N r t = 1 := b2_t c
      rw [if_pos c, e1, if_neg (by decide)]
      exact iH
    · have e1 : ft_ T N r t = 0 := b2_f c
      rw [if_neg c, e1, if_pos rfl]
theorem sp_ft {N : am_M} (I : Ib N) {r m : Nat} (hr : r < 6) (hm : ((3 * m : Nat) : Int) = N 2 r) {T : Nat → Int} (hT : ∀ j : Nat, (j : Int) ≤ N 14 0 → N 51 j = T j) (hb : ∀ j, 0 ≤ T j ∧ T j ≤ 12) (hB : al_ (bk_ N r) m 0 = 1) : X_X3_fits_47_1 r N = some (al_ (ft_ T N r) m 0, N) := by
  have hs := I.2.1.2.1 r
  have := lp_ft I hr hT hb m 1000 0 (by rw [Nat.zero_add]; exact hm) (by omega) (al_all hB)
  rw [X_X3_fits_47_1, XB_X3_fits_47_1_e]
  exact this
/-! do they fit: the model -/
theorem lp_mt (k : Int → Int → Int → Int → am_M → am_Rs) {M : am_M} (I : Ib M) {r : Nat} (hr : r < 6) {p : Int} (hp : 0 ≤ p ∧ p ≤ M 11 0) (v2 : Int) : ∀ (e n t : Nat) (v : Int), (v = 0 ∨ v = 1) → ((3 * (t + e) : Nat) : Int) = M 2 r → e < n → (∀ j, t ≤ j → j < t + e → bk_ M r j ≠ 0) → XL_X9_books_53_13 k n r v2 p v ((40 * r + 3 * t : Nat) : Int) M = k r v2 p (if v = 0 then 0 else al_ (ft_ (tB M p) M r) e t) M := by
  intro e
  have hs := I.2.1.2.1 r
  have r0 := I.r0
  have rs := I.rs
  induction e with
  | zero =>
    intro n t v hv ht hn hB
    obtain ⟨n, rfl⟩ : ∃ m, n = m + 1 := ⟨n - 1, by omega⟩
    rw [XL_X9_books_53_13, XB_X9_books_53_13, wI_of (x := (r : Int)) (by omega) (by omega), if_pos (by omega), Int.toNat_natCast, I.2.1.1, wI_of (x := ((40 * r + 3 * t : Nat) : Int)) (by omega) (by omega), wI_of (x := 40 * (r : Int) + M 2 r) (by omega) (by omega), if_neg (by omega)]
    rcases hv with rfl | rfl
    · rfl
    · rfl
  | succ e ih =>
    intro n t v hv ht hn hB
    obtain ⟨n, rfl⟩ : ∃ m, n = m + 1 := ⟨n - 1, by omega⟩
    have iH := fun v hv => ih n (t + 1) v hv (by rw [← ht]; congr 1; omega) (by omega) (fun j h1 h2 => hB j (by omega) (by omega))
    have hk := hB t (Nat.le_refl _) (by omega)
    unfold bk_ at hk
    rw [ne_eq, b2_0, Classical.not_not] at hk
    obtain ⟨k1, k2, k3⟩ := hk
    have z0 := iH 0 (Or.inl rfl)
    rw [if_pos rfl] at z0
    have z1 := iH 1 (Or.inr rfl)
    rw [if_neg (by decide)] at z1
    have hb := tB_r hp (rw_ M r (3 * t)).toNat
    have e3 : ((40 * r + 3 * t : Nat) : Int) + 3 = ((40 * r + 3 * (t + 1) : Nat) : Int) := by omega
    rw [XL_X9_books_53_13, XB_X9_books_53_13, wI_of (x := (r : Int)) (by omega) (by omega), if_pos (by omega), Int.toNat_natCast, I.2.1.1, wI_of (x := ((40 * r + 3 * t : Nat) : Int)) (by omega) (by omega), wI_of (x := 40 * (r : Int) + M 2 r) (by omega) (by omega), if_pos (by omega), e3, show ((40 * r + 3 * t : Nat) : Int) + 1 = ((40 * r + (3 * t + 1) : Nat) : Int) by omega, show ((40 * r + 3 * t : Nat) : Int) + 2 = ((40 * r + (3 * t + 2) : Nat) : Int) by omega, wI_of (x := ((40 * r + (3 * t + 1) : Nat) : Int)) (by omega) (by omega), wI_of (x := ((40 * r + (3 * t + 2) : Nat) : Int)) (by omega) (by omega), if_pos (by omega), if_pos (by omega), Int.toNat_natCast, Int.toNat_natCast, Int.toNat_natCast, m_row I hr (i := 3 * t) (by omega), m_row I hr (i := 3 * t + 1) (by omega), sp_bt I hp k1, ob]
    dsimp +instances only
    rw [m_row I hr (i := 3 * t + 2) (by omega), wI_R (rw_R I r (3 * t + 1)), wI_R (rw_R I r (3 * t + 2)), wI_of (x := tB M p (rw_ M r (3 * t)).toNat) (by omega) (by omega)]
    have ef : ft_ (tB M p) M r t = b2 (crw (rw_ M r (3 * t + 1)) (tB M p (rw_ M r (3 * t)).toNat) = rw_ M r (3 * t + 2)) := rfl
    rcases hv with rfl | rfl
    · rw [if_pos wI_0, if_pos wI_0, ite_self, z0, if_pos rfl]
    · rw [if_neg (show ¬ wI 1 = 0 by decide), if_neg (show ¬ wI 1 = 0 by decide), if_neg (show ¬ (1 : Int) = 0 by decide), al_, ef]
      by_cases c : rw_ M r (3 * t + 1) < tB M p (rw_ M r (3 * t)).toNat
      · rw [if_pos c, if_pos (by omega)]
        have ec : crw (rw_ M r (3 * t + 1)) (tB M p (rw_ M r (3 * t)).toNat) = 0 := if_pos c
        rw [ec]
        by_cases c2 : 0 = rw_ M r (3 * t + 2)
        · rw [if_pos c2, b2_t c2, if_neg (by decide)]; exact z1
        · rw [if_neg c2, b2_f c2, if_pos rfl]; exact z0
      · rw [if_neg c, if_pos (by omega)]
        have ec : crw (rw_ M r (3 * t + 1)) (tB M p (rw_ M r (3 * t)).toNat) = 1 := if_neg c
        rw [ec]
        by_cases c2 : 1 = rw_ M r (3 * t + 2)
        · rw [if_pos c2, b2_t c2, if_neg (by decide)]; exact z1
        · rw [if_neg c2, b2_f c2, if_pos rfl]; exact z0
/-! all the starts -/
noncomputable def bS (M : am_M) (r m : Nat) (i : Nat) (k : Nat) : Prop := k < i ∧ al_ (ft_ (tB M k) M r) m 0 = 1
theorem bS_t {M : am_M} {r m i : Nat} {v : Int} (hi : i < 20) (h : BS v (bS M r m i)) (c : al_ (ft_ (tB M i) M r) m 0 = 1) : BS (b_or_ v (b_shl_ 1 i)) (bS M r m (i + 1)) :=
  (h.or (BS.one (j := (i : Int)) (by omega))).c fun k _ => by
    unfold bS
    constructor
    · rintro (⟨h1, h2⟩ | h1)
      · exact ⟨by omega, h2⟩
      · have : k = i := by omega
        subst this; exact ⟨by omega, c⟩
    · rintro ⟨h1, h2⟩
      by_cases e : k = i
      · right; omega
      · left; exact ⟨by omega, h2⟩
theorem bS_f {M : am_M} {r m i : Nat} {v : Int} (h : BS v (bS M r m i)) (c : al_ (ft_ (tB M i) M r) m 0 = 0) : BS v (bS M r m (i + 1)) :=
  h.c fun k _ => by
    unfold bS
    constructor
    · rintro ⟨h1, h2⟩
      exact ⟨by omega, h2⟩
    · rintro ⟨h1, h2⟩
      by_cases e : k = i
      · subst e; omega
      · exact ⟨by omega, h2⟩
theorem lp_cs {M : am_M} (I : Ib M) {r m : Nat} (hr : r < 6) (hm : ((3 * m : Nat) : Int) = M 2 r) (hB : al_ (bk_ M r) m 0 = 1) : ∀ (e n i : Nat) (v : Int) (f : Nat → Int), BS v (bS M r m i) → (i : Int) + e = M 11 0 + 1 → e < n → ∃ w f', XL_X3_startsThatFit_47_1_1 XB_X3_startsThatFit_47_1_5 n r v i (am_row M 51 f) = some (w, am_row M 51 f') ∧ BS w (bS M r m (i + e)) := by
  intro e
  have rs := I.rs
  induction e with
  | zero =>
    intro n i v f hv hi hn
    obtain ⟨n, rfl⟩ : ∃ m, n = m + 1 := ⟨n - 1, by omega⟩
    refine ⟨v, f, ?_, hv⟩
    rw [XL_X3_startsThatFit_47_1_1, XB_X3_startsThatFit_47_1_1, row_a (by decide), wI_of (x := M 11 0) (by omega) (by omega), wI_of (x := (i : Int)) (by omega) (by omega), if_pos (by omega)]
    rfl
  | succ e ih =>
    intro n i v f hv hi hn
    obtain ⟨n, rfl⟩ : ∃ m, n = m + 1 := ⟨n - 1, by omega⟩
    obtain ⟨f1, a1, a2⟩ := sp_rt_11 I.g11 I.r0 I.said (p := (i : Int)) (by omega) f
    have I1 : Ib (am_row M 51 f1) := Kb.ib I (Kp.row (by decide)).b
    have b1 := sp_ft I1 (r := r) (m := m) hr (by rw [row_a (by decide)]; exact hm) (T := tB M i) (fun j hj => by
      rw [row_s]
      rw [row_a (by decide)] at hj
      exact a2 j hj) (fun j => by have := tB_r (M := M) (p := (i : Int)) (by omega) j; omega) hB
    have b2' : X_X3_fits_47_1 r (am_row M 51 f1) = some (al_ (ft_ (tB M i) M r) m 0, am_row M 51 f1) := b1
    rw [XL_X3_startsThatFit_47_1_1, XB_X3_startsThatFit_47_1_1, row_a (by decide), wI_of (x := M 11 0) (by omega) (by omega), wI_of (x := (i : Int)) (by omega) (by omega), if_neg (by omega), a1, ob]
    dsimp +instances only
    rw [b2', ob]
    dsimp +instances only
    rw [show (i : Int) + 1 = ((i + 1 : Nat) : Int) by omega, show i + (e + 1) = i + 1 + e by omega]
    rcases al_01 (ft_ (tB M i) M r) m 0 with c | c
    · rw [c, if_pos wI_0]
      exact ih n (i + 1) v f1 (bS_f hv c) (by push_cast; omega) (by omega)
    · rw [c, if_neg (by decide)]
      exact ih n (i + 1) _ f1 (bS_t (by omega) hv c) (by push_cast; omega) (by omega)
theorem sp_cs {M : am_M} (I : Ib M) {r m : Nat} (hr : r < 6) (hm : ((3 * m : Nat) : Int) = M 2 r) (hB : al_ (bk_ M r) m 0 = 1) : ∃ w f', X_X3_startsThatFit_47_1 r M = some (w, am_row M 51 f') ∧ BS w (bS M r m (M 11 0 + 1).toNat) := by
  have rs := I.rs
  obtain ⟨w, f', a1, a2⟩ := lp_cs I hr hm hB (M 11 0 + 1).toNat 1000 0 0 (M 51) (BS.z.c fun k _ => ⟨fun h => h.elim, fun h => absurd h.1 (Nat.not_lt_zero _)⟩) (by omega) (by omega)
  rw [row_self, show ((0 : Nat) : Int) = 0 from rfl] at a1
  rw [Nat.zero_add] at a2
  refine ⟨w, f', ?_, a2⟩
  rw [X_X3_startsThatFit_47_1, XB_X3_startsThatFit_47_1_e]
  exact a1
theorem lp_ms {M : am_M} (I : Ib M) {r m : Nat} (hr : r < 6) (hm : ((3 * m : Nat) : Int) = M 2 r) (hB : al_ (bk_ M r) m 0 = 1) : ∀ (e n i : Nat) (v : Int), BS v (bS M r m i) → (i : Int) + e = M 11 0 + 1 → e < n → ∃ w, XL_X9_books_53_11 XB_X9_books_53_26 n r v i M = some (w, M) ∧ BS w (bS M r m (i + e)) := by
  intro e
  have rs := I.rs
  have hs := I.2.1.2.1 r
  induction e with
  | zero =>
    intro n i v hv hi hn
    obtain ⟨n, rfl⟩ : ∃ m, n = m + 1 := ⟨n - 1, by omega⟩
    refine ⟨v, ?_, hv⟩
    rw [XL_X9_books_53_11, XB_X9_books_53_11, I.es, wI_of (x := M 11 0) (by omega) (by omega), wI_of (x := (i : Int)) (by omega) (by omega), if_pos (by omega)]
    rfl
  | succ e ih =>
    intro n i v hv hi hn
    obtain ⟨n, rfl⟩ : ∃ m, n = m + 1 := ⟨n - 1, by omega⟩
    have b1 := lp_mt (XB_X9_books_53_22 (XL_X9_books_53_11 XB_X9_books_53_26 n)) I hr (p := (i : Int)) (by omega) v m 1000 0 1 (Or.inr rfl) (by rw [Nat.zero_add]; exact hm) (by omega) (al_all hB)
    rw [if_neg (by decide), show ((40 * r + 3 * 0 : Nat) : Int) = 40 * (r : Int) by omega] at b1
    rw [XL_X9_books_53_11, XB_X9_books_53_11, I.es, wI_of (x := M 11 0) (by omega) (by omega), wI_of (x := (i : Int)) (by omega) (by omega), if_neg (by omega), b1, XB_X9_books_53_22, show (i : Int) + 1 = ((i + 1 : Nat) : Int) by omega, show i + (e + 1) = i + 1 + e by omega]
    rcases al_01 (ft_ (tB M i) M r) m 0 with c | c
    · rw [c, if_pos wI_0]
      exact ih n (i + 1) _ (bS_f ((hv.or BS.z).c fun k _ => by simp) c) (by push_cast; omega) (by omega)
    · rw [c, if_neg (by decide)]
      exact ih n (i + 1) _ (bS_t (by omega) hv c) (by push_cast; omega) (by omega)
theorem eq_books {M : am_M} (I : Inv M) {r : Int} (hr : iR r) : Step (X_X8_books_0 r) (X_X9_books_53 r) M := gd_books I hr fun h1 h2 h3 => by
  obtain ⟨r, rfl⟩ := Int.eq_ofNat_of_zero_le h1.1
  rw [Int.toNat_natCast] at h3
  have h6 : r < 6 := by omega
  have hs := I.2.1.2.1 r
  have rs := I.rs
  have tm : ∀ _ : Unit, wI ((M 2 r).tmod 3) = M 2 r % 3 := fun _ => by rw [Int.tmod_eq_emod_of_nonneg h3]; exact wI_of (by omega) (by omega)
  have es57 : ∀ N : am_M, Kb M N → N 57 r = M 2 r := fun N k => by rw [k.1 57 (by decide), I.2.1.1]
  have es53 : ∀ N : am_M, Kb M N → N 53 1 = M 11 0 := fun N k => by rw [k.2.1, I.es]
  have c0 : X_X8_books_0 r M = if M 2 r % 3 = 0 then (X_X3_areBooks_47_1 r M).bind fun z5 => if wI z5.1 = 0 then (X_X8_find_0 3 z5.2).bind fun z6 => some (z6.1, z6.2) else (X_X3_startsThatFit_47_1 r z5.2).bind fun z6 => some (z6.1, z6.2) else (X_X8_find_0 5 M).bind fun z5 => some (z5.1, z5.2) := by
    rw [X_X8_books_0, sp_isNumber_1 I.sh1 hr, b2_t h1, ob]
    dsimp +instances only
    rw [if_neg (by decide), sp_hasNoLand I.g11, b2_f h2, ob]
    dsimp +instances only
    rw [if_pos wI_0, sp_isThere_1 I.sh1 h1, Int.toNat_natCast, b2_t h3, ob]
    dsimp +instances only
    rw [if_neg (by decide), c_size I.b h6, ob]
    dsimp +instances only
    rw [wI_of (x := M 2 r) (by omega) (by omega), tm ()]
  have m0 : ∀ N : am_M, Kb M N → X_X9_books_53 r N = if M 2 r % 3 = 0 then (X_X9_areBooks_53 r N).bind fun z2 => if wI z2.1 = 0 then (X_X9_find_53 3 z2.2).bind fun z3 => some (z3.1, z3.2) else XL_X9_books_53_11 XB_X9_books_53_26 1000 r 0 0 z2.2 else (X_X9_find_53 5 N).bind fun z2 => some (z2.1, z2.2) := by
    intro N k
    rw [X_X9_books_53, XB_X9_books_53_e, sp_isRow N hr, b2_t h1, ob]
    dsimp +instances only
    rw [if_neg (by decide), es53 N k, wI_of (x := M 11 0) (by omega) (by omega), if_neg h2, wI_of (x := (r : Int)) (by omega) (by omega), Int.toNat_natCast, es57 N k, wI_of (x := M 2 r) (by omega) (by omega), if_pos (by omega), if_neg (by omega), if_pos (by omega), tm ()]
  by_cases c3 : M 2 r % 3 = 0
  · obtain ⟨m, hm⟩ : ∃ m : Nat, ((3 * m : Nat) : Int) = M 2 r := ⟨(M 2 r / 3).toNat, by omega⟩
    have bkN : ∀ N : am_M, Kb M N → bk_ N r = bk_ M r := fun N k => by
      funext t
      unfold bk_ rw_
      rw [k.1 3 (by decide), k.1 14 (by decide), k.1 11 (by decide)]
    rw [if_pos c3, sp_ab I.b h6 hm, ob] at c0
    dsimp +instances only at c0
    rcases al_01 (bk_ M r) m 0 with c | c
    · rw [c, if_pos wI_0, f_c3, ob] at c0
      refine st_find I (f := 3) c0 ?_
      have k := Kb.cf M 3
      have m1 := m0 _ k
      rw [if_pos c3, sp_am3 (Kb.ib I.b k) h6 (m := m) (by rw [hm, k.1 2 (by decide)]), bkN _ k, c, ob] at m1
      dsimp +instances only at m1
      rw [if_pos wI_0, f_m3, ob] at m1
      exact m1
    · obtain ⟨w, f', a1, a2⟩ := sp_cs I.b h6 hm c
      rw [c, if_neg (by decide), a1, ob] at c0
      have k : Kp M (am_row M 51 f') := Kp.row (by decide)
      have I1 : Ib (am_row M 51 f') := Kb.ib I.b k.b
      obtain ⟨w2, d1, d2⟩ := lp_ms I1 h6 (m := m) (by rw [hm, k.b.1 2 (by decide)]) (by rw [bkN _ k.b, c]) (M 11 0 + 1).toNat 1000 0 0 (BS.z.c fun k _ => ⟨fun h => h.elim, fun h => absurd h.1 (Nat.not_lt_zero _)⟩) (by rw [k.b.1 11 (by decide)]; omega) (by omega)
      rw [Nat.zero_add] at d2
      have m1 := m0 _ k.b
      rw [if_pos c3, sp_am3 I1 h6 (m := m) (by rw [hm, k.b.1 2 (by decide)]), bkN _ k.b, c, ob] at m1
      dsimp +instances only at m1
      rw [if_neg (by decide)] at m1
      refine st_kp I c0 k (m1.trans d1) (Kp.rf _) (a2.w ?_)
      exact d2
  · rw [if_neg c3, f_c5, ob] at c0
    refine st_find I (f := 5) c0 ?_
    have m1 := m0 _ (Kb.cf M 5)
    rw [if_neg c3, f_m5, ob] at m1
    exact m1
end
section
/-! Kinds: of which kind a strip can have been. -/
noncomputable def Gd48 (M : am_M) : Prop := 0 ≤ M 48 0 ∧ M 48 0 ≤ 12 ∧ ∀ i : Nat, (i : Int) < M 48 0 → 0 ≤ M 49 i ∧ M 49 i ≤ 5
theorem sp_rudeness_48 {M : am_M} (h : Gd48 M) {b mv day : Int} (hb : 0 ≤ b ∧ b ≤ M 48 0) (hm : -1 ≤ mv ∧ mv ≤ 1) (hd : 0 ≤ day ∧ day < 1000) : X_X2_rudeness_48 b mv day M = some (rud (M 48 0) (M 49) b mv day, M) := by
  obtain ⟨h1, h2, h3⟩ := h
  have ht : wI (day.tmod 2) = day % 2 := by rw [tm2 hd.1]; exact wI_of (by omega) (by omega)
  unfold rud crs
  rcases (show mv = -1 ∨ mv = 0 ∨ mv = 1 by omega) with rfl | rfl | rfl
  · by_cases c : b - 1 < 0
    · simp only [X_X2_rudeness_48, show wI (-1) = -1 from rfl, show ¬ ((-1 : Int) = 0) by decide, show (-1 : Int) < 0 by decide, if_true, if_false, wI_of (x := b - 1) (by omega) (by omega), if_pos c, if_pos (show b - 1 < 0 ∨ M 48 0 ≤ b - 1 from Or.inl c)]
    · have hk : wI (M 49 (b - 1).toNat) = M 49 (b - 1).toNat := by
        have := h3 (b - 1).toNat (by omega)
        exact wI_of (by omega) (by omega)
      simp only [X_X2_rudeness_48, show wI (-1) = -1 from rfl, show ¬ ((-1 : Int) = 0) by decide, show (-1 : Int) < 0 by decide, if_true, if_false, wI_of (x := b - 1) (by omega) (by omega), wI_of (x := M 48 0) (by omega) (by omega), wI_of (x := day) (by omega) (by omega), hk, ht]
      repeat' split
      all_goals first | rfl | (exfalso; omega) | simp_all
  · simp only [X_X2_rudeness_48, show wI 0 = 0 from rfl, if_true]
  · by_cases c : b < M 48 0
    · have hk : wI (M 49 b.toNat) = M 49 b.toNat := by
        have := h3 b.toNat (by omega)
        exact wI_of (by omega) (by omega)
      simp only [X_X2_rudeness_48, show wI 1 = 1 from rfl, show ¬ ((1 : Int) = 0) by decide, show ¬ (1 : Int) < 0 by decide, if_true, if_false, wI_of (x := b) (by omega) (by omega), wI_of (x := M 48 0) (by omega) (by omega), wI_of (x := day) (by omega) (by omega), hk, ht]
      repeat' split
      all_goals first | rfl | (exfalso; omega) | simp_all
    · simp only [X_X2_rudeness_48, show wI 1 = 1 from rfl, show ¬ ((1 : Int) = 0) by decide, show ¬ (1 : Int) < 0 by decide, if_true, if_false, wI_of (x := b) (by omega) (by omega), wI_of (x := M 48 0) (by omega) (by omega), if_neg (show ¬ b < 0 by omega), if_neg c, if_pos (show b < 0 ∨ M 48 0 ≤ b by omega)]
theorem sp_borderAfter_48 {M : am_M} (h : Gd48 M) {b day x y : Int} (hb : 0 ≤ b ∧ b ≤ M 48 0) (hd : 0 ≤ day ∧ day < 1000) (hx : 0 ≤ x ∧ x ≤ 3) (hy : 0 ≤ y ∧ y ≤ 3) : X_X2_borderAfter_48 b day x y M = some (aft (M 48 0) (M 49) b day x y, M) := by
  have hc : -1 ≤ cmp_ y x ∧ cmp_ y x ≤ 1 := by unfold cmp_; repeat' split
                                               all_goals omega
  have hr := rud_r (M 48 0) (M 49) b (cmp_ y x) day
  have hg : (if 0 ≤ wI (x - y) then x - y else 0 - (x - y)) = gap_ x y := by
    rw [wI_of (by omega) (by omega)]
    unfold gap_
    split <;> split <;> omega
  have hgr : 0 ≤ gap_ x y ∧ gap_ x y ≤ 3 := by unfold gap_; split <;> omega
  simp only [X_X2_borderAfter_48, sp_compare y x M (by unfold iR; omega) (by unfold iR; omega), ob, sp_rudeness_48 h hb hc hd, hg, wI_of (x := rud (M 48 0) (M 49) b (cmp_ y x) day) (by omega) (by omega), wI_of (x := gap_ x y) (by omega) (by omega), aft]
  by_cases c1 : rud (M 48 0) (M 49) b (cmp_ y x) day = -1
  · rw [if_pos c1, if_pos (Or.inl c1)]
  · rw [if_neg c1]
    by_cases c2 : gap_ x y < rud (M 48 0) (M 49) b (cmp_ y x) day
    · rw [if_pos c2, if_pos (Or.inr c2)]
    · rw [if_neg c2, if_neg (by omega)]
theorem lp_rt_48 {M : am_M} (g : Gd48 M) (hd : 0 ≤ M 14 0 ∧ M 14 0 ≤ 40) (hS : ∀ j, (0 ≤ M 15 j ∧ M 15 j ≤ 3) ∧ (0 ≤ M 16 j ∧ M 16 j ≤ 3)) {p : Int} (hp : 0 ≤ p ∧ p ≤ M 48 0) : ∀ (e n i : Nat) (f : Nat → Int), (i : Int) + e = M 14 0 → e < n → (∀ j, j ≤ i → f j = tr_ (aft (M 48 0) (M 49)) (M 15) (M 16) p j) → ∃ f', XL_X1_retrace_14_48_51_3 XB_X1_retrace_14_48_51_6 n i (am_row M 51 f) = some (0, am_row M 51 f') ∧ ∀ j : Nat, (j : Int) ≤ M 14 0 → f' j = tr_ (aft (M 48 0) (M 49)) (M 15) (M 16) p j := by
  intro e
  induction e with
  | zero =>
    intro n i f hi hn hf
    obtain ⟨n, rfl⟩ : ∃ m, n = m + 1 := ⟨n - 1, by omega⟩
    refine ⟨f, ?_, fun j hj => hf j (by omega)⟩
    rw [XL_X1_retrace_14_48_51_3, XB_X1_retrace_14_48_51_3, row_a (by decide), wI_of (x := (i : Int)) (by omega) (by omega), wI_of (x := M 14 0) (by omega) (by omega), if_neg (by omega)]
    rfl
  | succ e ih =>
    intro n i f hi hn hf
    obtain ⟨n, rfl⟩ : ∃ m, n = m + 1 := ⟨n - 1, by omega⟩
    have g' : Gd48 (am_row M 51 f) := by
      unfold Gd48 at g ⊢
      rw [row_a (by decide), row_a (by decide)]; exact g
    have hb : 0 ≤ f i ∧ f i ≤ M 48 0 := by
      rw [hf i (Nat.le_refl _)]
      exact tr_r (fun b d x y h => aft_r h) hp i
    have b := sp_borderAfter_48 g' (b := f i) (day := (i : Int)) (x := M 15 i) (y := M 16 i) (by rw [row_a (by decide)]; exact hb) (by omega) (hS i).1 (hS i).2
    rw [row_a (by decide), row_a (by decide)] at b
    obtain ⟨x, hx⟩ : ∃ x, x = aft (M 48 0) (M 49) (f i) i (M 15 i) (M 16 i) := ⟨_, rfl⟩
    rw [← hx] at b
    obtain ⟨f', c1, c2⟩ := ih n (i + 1) (fun j => if j = i + 1 then x else f j) (by push_cast; omega) (by omega) (fun j hj => by
      by_cases c : j = i + 1
      · rw [if_pos c, c, tr_, hx, hf i (Nat.le_refl _)]
      · rw [if_neg c, hf j (by omega)])
    refine ⟨f', ?_, c2⟩
    rw [← c1, XL_X1_retrace_14_48_51_3, XB_X1_retrace_14_48_51_3, row_a (a' := 14) (by decide), row_s, row_a (a' := 15) (by decide), row_a (a' := 16) (by decide), wI_of (x := (i : Int)) (by omega) (by omega), wI_of (x := M 14 0) (by omega) (by omega), if_pos (by omega), if_pos (by omega), if_pos (by omega), if_pos (by omega), if_pos (by omega), Int.toNat_natCast, b, ob]
    dsimp +instances only
    rw [show (i : Int) + 1 = ((i + 1 : Nat) : Int) by omega, wI_of (x := ((i + 1 : Nat) : Int)) (by omega) (by omega), if_pos (by omega), Int.toNat_natCast, up_row, row_row, row_s]
theorem sp_rt_48 {M : am_M} (g : Gd48 M) (hd : 0 ≤ M 14 0 ∧ M 14 0 ≤ 40) (hS : ∀ j, (0 ≤ M 15 j ∧ M 15 j ≤ 3) ∧ (0 ≤ M 16 j ∧ M 16 j ≤ 3)) {p : Int} (hp : 0 ≤ p ∧ p ≤ M 48 0) (f : Nat → Int) : ∃ f', X_X1_retrace_14_48_51 p (am_row M 51 f) = some (0, am_row M 51 f') ∧ ∀ j : Nat, (j : Int) ≤ M 14 0 → f' j = tr_ (aft (M 48 0) (M 49)) (M 15) (M 16) p j := by
  obtain ⟨f', c1, c2⟩ := lp_rt_48 g hd hS hp (M 14 0).toNat 1000 0 (fun j => if j = 0 then p else f j) (by omega) (by omega) (fun j hj => by
    have : j = 0 := by omega
    rw [if_pos this, this, tr_])
  refine ⟨f', ?_, c2⟩
  rw [X_X1_retrace_14_48_51, XB_X1_retrace_14_48_51_e, up_row, row_row, row_s]
  exact c1
/-- where it would be now, had strip i been of kind c -/
noncomputable def kk (M : am_M) (i : Nat) (c : Int) : Nat → Int := tr_ (aft (M 11 0) (fun j => if j = i then c else M 12 j)) (M 15) (M 16) (M 17 0)
noncomputable def kS (M : am_M) (i t k : Nat) : Prop := k < t ∧ kk M i k (M 14 0).toNat = M 14 1
theorem kS_t {M : am_M} {i t : Nat} {v : Int} (ht : t < 20) (h : BS v (kS M i t)) (c : kk M i t (M 14 0).toNat = M 14 1) : BS (b_or_ v (b_shl_ 1 t)) (kS M i (t + 1)) :=
  (h.or (BS.one (j := (t : Int)) (by omega))).c fun k _ => by
    unfold kS
    constructor
    · rintro (⟨h1, h2⟩ | h1)
      · exact ⟨by omega, h2⟩
      · have : k = t := by omega
        subst this; exact ⟨by omega, c⟩
    · rintro ⟨h1, h2⟩
      by_cases e : k = t
      · right; omega
      · left; exact ⟨by omega, h2⟩
theorem kS_f {M : am_M} {i t : Nat} {v : Int} (h : BS v (kS M i t)) (c : ¬ kk M i t (M 14 0).toNat = M 14 1) : BS v (kS M i (t + 1)) :=
  h.c fun k _ => by
    unfold kS
    constructor
    · rintro ⟨h1, h2⟩
      exact ⟨by omega, h2⟩
    · rintro ⟨h1, h2⟩
      by_cases e : k = t
      · subst e; exact absurd h2 c
      · exact ⟨by omega, h2⟩
theorem kS_0 (M : am_M) (i : Nat) : BS 0 (kS M i 0) := BS.z.c fun k _ => ⟨fun h => h.elim, fun h => absurd h.1 (Nat.not_lt_zero _)⟩
theorem Ib.first {M : am_M} (I : Ib M) : M 54 120 = M 17 0 := by
  have := I.2.2.2.2.2.2.1.1
  rw [Nat.zero_add] at this; exact this.symm
theorem Ib.h0 {M : am_M} (I : Ib M) : 0 ≤ M 17 0 ∧ M 17 0 ≤ M 11 0 := ⟨(I.2.2.2.2.2.2.1.2.2.1 0).1, I.2.2.2.2.2.2.1.2.2.2.1 0 I.r0.1⟩
theorem kk_r {M : am_M} (I : Ib M) (i : Nat) (c : Int) (n : Nat) : 0 ≤ kk M i c n ∧ kk M i c n ≤ M 11 0 := tr_r (fun _ _ _ _ h => aft_r h) I.h0 n
theorem kk_c {M : am_M} {i : Nat} {c : Int} {s : Int} {g : Nat → Int} (hs : s = M 11 0) (hg : ∀ j : Nat, (j : Int) < M 11 0 → g j = if j = i then c else M 12 j) : tr_ (aft s g) (M 15) (M 16) (M 17 0) = kk M i c := by
  unfold kk
  rw [hs, show aft (M 11 0) g = aft (M 11 0) (fun j => if j = i then c else M 12 j) by
    funext b d x y
    exact aft_c hg b d x y]
/-! the class -/
theorem lp_ck {M : am_M} (I : Inv M) {i : Nat} (hi : (i : Int) < M 11 0) : ∀ (e n t : Nat) (v : Int) (N : am_M), Kp M N → N 48 0 = M 11 0 → (∀ j : Nat, (j : Int) < M 11 0 → j ≠ i → N 49 j = M 12 j) → BS v (kS M i t) → t + e = 6 → e < n → ∃ w N2, XL_X3_kindsThatFit_47_1 XB_X3_kindsThatFit_47_5 n i v t N = some (w, N2) ∧ Kp M N2 ∧ BS w (kS M i 6) := by
  intro e
  have rs := I.rs
  have r0 := I.r0
  have r1 := I.r1
  induction e with
  | zero =>
    intro n t v N k h48 h49 hv ht hn
    obtain ⟨n, rfl⟩ : ∃ m, n = m + 1 := ⟨n - 1, by omega⟩
    have : t = 6 := by omega
    subst this
    refine ⟨v, N, ?_, k, hv⟩
    rw [XL_X3_kindsThatFit_47_1, XB_X3_kindsThatFit_47_1, if_neg (by decide)]
    rfl
  | succ e ih =>
    intro n t v N k h48 h49 hv ht hn
    obtain ⟨n, rfl⟩ : ∃ m, n = m + 1 := ⟨n - 1, by omega⟩
    obtain ⟨N1, hN1⟩ : ∃ N1, N1 = am_up N 49 i (t : Int) := ⟨_, rfl⟩
    have k1 : Kp M N1 := by rw [hN1]; exact k.tr (Kp.up (by decide))
    have I1 : Inv N1 := Kp.inv I k1
    have q48 : N1 48 0 = M 11 0 := by rw [hN1, up_a (by decide), h48]
    have q49 : ∀ j : Nat, (j : Int) < M 11 0 → N1 49 j = if j = i then (t : Int) else M 12 j := fun j hj => by
      rw [hN1]
      by_cases c : j = i
      · rw [if_pos c, c, up_s]
      · rw [if_neg c, up_j c, h49 j hj c]
    have g : Gd48 N1 := ⟨by omega, by omega, fun j hj => by
      rw [q49 j (by omega)]
      split
      · omega
      · exact I.g11.2.2.1 j⟩
    have a1 : X_X2_setKind_48 i t N = some (0, N1) := by
      have hh : X_X2_has_48 i N = some (1, N) := by
        rw [X_X2_has_48, h48, wI_of (x := (i : Int)) (by omega) (by omega), wI_of (x := M 11 0) (by omega) (by omega), if_neg (by omega), if_pos (by omega)]
      rw [X_X2_setKind_48, hh, ob]
      dsimp +instances only
      rw [if_neg (by decide), wI_of (x := (i : Int)) (by omega) (by omega), if_pos (by omega), Int.toNat_natCast, hN1]
    have e17 : N1 17 = M 17 := k1.1 17 (by decide)
    have e14 : N1 14 = M 14 := k1.1 14 (by decide)
    have e15 : N1 15 = M 15 := k1.1 15 (by decide)
    have e16 : N1 16 = M 16 := k1.1 16 (by decide)
    have a2 : X_X1_borderAhead_14 0 N1 = some (M 17 0, N1) := by
      have := sp_ahead I1 (n := 0) (by rw [e14]; omega)
      rw [e17] at this; exact this
    obtain ⟨f', a3, a4⟩ := sp_rt_48 g (by rw [e14]; exact r0) I1.b.said (p := M 17 0) (by rw [q48]; exact I.b.h0) (N1 51)
    rw [row_self] at a3
    rw [e14, e15, e16, kk_c q48 q49] at a4
    have k2 : Kp M (am_row N1 51 f') := k1.tr (Kp.row (by decide))
    have e14' : am_row N1 51 f' 14 = M 14 := by rw [row_a (by decide), e14]
    have a5 : X_X3_trailAt_47 (M 14 0) (am_row N1 51 f') = some (kk M i t (M 14 0).toNat, am_row N1 51 f') := by
      rw [sp_trailAt r0, row_s, a4 _ (by omega)]
    have kr := kk_r I.b i t (M 14 0).toNat
    have n48 : am_row N1 51 f' 48 0 = M 11 0 := by rw [row_a (by decide), q48]
    have n49 : ∀ j : Nat, (j : Int) < M 11 0 → j ≠ i → am_row N1 51 f' 49 j = M 12 j := fun j hj c => by rw [row_a (by decide), q49 j hj, if_neg c]
    rw [XL_X3_kindsThatFit_47_1, XB_X3_kindsThatFit_47_1, wI_of (x := (t : Int)) (by omega) (by omega), if_pos (by omega), a1, ob]
    dsimp +instances only
    rw [a2, ob]
    dsimp +instances only
    rw [a3, ob]
    dsimp +instances only
    rw [e14', a5, ob]
    dsimp +instances only
    rw [e14', wI_of (x := kk M i t (M 14 0).toNat) (by omega) (by omega), wI_of (x := M 14 1) (by omega) (by omega), show (t : Int) + 1 = ((t + 1 : Nat) : Int) by omega]
    by_cases c : kk M i t (M 14 0).toNat = M 14 1
    · rw [if_pos c]
      exact ih n (t + 1) _ _ k2 n48 n49 (kS_t (by omega) hv c) (by omega) (by omega)
    · rw [if_neg c]
      exact ih n (t + 1) _ _ k2 n48 n49 (kS_f hv c) (by omega) (by omega)
theorem sp_ck {M : am_M} (I : Inv M) {i : Nat} (hi : (i : Int) < M 11 0) : ∃ w N2, X_X3_kindsThatFit_47 i M = some (w, N2) ∧ Kp M N2 ∧ BS w (kS M i 6) := by
  have rs := I.rs
  obtain ⟨w, N2, a1, a2⟩ := lp_ck I hi 6 1000 0 0 (am_cpy (am_cpy (am_up M 48 0 (M 11 0)) 12 49 0 0 12) 13 50 0 0 12) (((Kp.up (by decide)).tr (Kp.row (by decide))).tr (Kp.row (by decide))) (by rw [cpy_a (by decide), cpy_a (by decide), up_s]) (fun j hj c => by
    rw [cpy_a (by decide), cpy_s, cpy_v, if_pos (by omega), up_a (by decide)]) (kS_0 M i) (by omega) (by omega)
  refine ⟨w, N2, ?_, a2⟩
  rw [X_X3_kindsThatFit_47, XB_X3_kindsThatFit_47_e, X_X2_takeFrom_48_11, ob]
  exact a1
/-! the model -/
theorem lp_bg (k : Int → am_M → am_Rs) {N : am_M} (G : GdM N) {a b : Nat → Int} (hS : ∀ j, (0 ≤ a j ∧ a j ≤ 3) ∧ (0 ≤ b j ∧ b j ≤ 3)) {p : Int} (hp : 0 ≤ p ∧ p ≤ N 53 1) {d : Nat} (hd : d ≤ 40) (hW : ∀ j, j < d → N 54 (40 + j) = 4 * a j + b j) : ∀ (e n i : Nat), i + e = d → e < n → XL_X9_broughtTo_53_1 k n d (tr_ (aft (N 53 1) (N 55)) a b p i) i N = k (tr_ (aft (N 53 1) (N 55)) a b p d) N := by
  intro e
  induction e with
  | zero =>
    intro n i hi hn
    obtain ⟨n, rfl⟩ : ∃ m, n = m + 1 := ⟨n - 1, by omega⟩
    have : i = d := by omega
    subst this
    rw [XL_X9_broughtTo_53_1, XB_X9_broughtTo_53_1, if_neg (by omega)]
  | succ e ih =>
    intro n i hi hn
    obtain ⟨n, rfl⟩ : ∃ m, n = m + 1 := ⟨n - 1, by omega⟩
    have hS := hS i
    have hb := tr_r (a := a) (b := b) (fun b d x y (h : 0 ≤ b ∧ b ≤ N 53 1) => aft_r (kd := N 55) (day := d) (x := x) (y := y) h) hp i
    have u1 : ∀ _ : Unit, (wI (4 * a i + b i)).tdiv 4 = a i := fun _ => by rw [wI_of (by omega) (by omega), Int.tdiv_eq_ediv_of_nonneg (by omega)]; omega
    have u2 : ∀ _ : Unit, (wI (4 * a i + b i)).tmod 4 = b i := fun _ => by rw [wI_of (by omega) (by omega), Int.tmod_eq_emod_of_nonneg (by omega)]; omega
    rw [XL_X9_broughtTo_53_1, XB_X9_broughtTo_53_1, wI_of (x := (i : Int)) (by omega) (by omega), wI_of (x := (d : Int)) (by omega) (by omega), if_pos (by omega), show (40 : Int) + i = ((40 + i : Nat) : Int) by omega, wI_of (x := ((40 + i : Nat) : Int)) (by omega) (by omega), if_pos (by omega), if_pos (by omega), Int.toNat_natCast, hW i (by omega), u1 (), u2 (), sp_behind G hb (by omega) hS.1 hS.2, ob]
    dsimp +instances only
    rw [show (i : Int) + 1 = ((i + 1 : Nat) : Int) by omega]
    exact ih n (i + 1) (by omega) (by omega)
theorem sp_bk {M : am_M} (I : Ib M) {i t : Nat} (ht : t < 6) {N : am_M} (hN : ∀ a, a ≠ 55 → N a = M a) (h55 : ∀ j, N 55 j = if j = i then (t : Int) else M 55 j) : X_X9_broughtTo_53 (M 17 0) (M 14 0) N = some (kk M i t (M 14 0).toNat, N) := by
  have r0 := I.r0
  have h0 := I.h0
  have G : GdM N := by
    have g := I.gM
    unfold GdM at g ⊢
    rw [hN 53 (by decide), hN 56 (by decide)]
    refine ⟨g.1, g.2.1, fun j => ?_, g.2.2.2⟩
    rw [h55 j]
    split
    · omega
    · exact g.2.2.1 j
  obtain ⟨d, hd⟩ := Int.eq_ofNat_of_zero_le r0.1
  have es : N 53 1 = M 11 0 := by rw [hN 53 (by decide), I.es]
  have b := lp_bg XB_X9_broughtTo_53_3 G I.said (p := M 17 0) (by rw [es]; exact h0) (d := d) (by omega) (fun j hj => by rw [hN 54 (by decide), I.word (by omega)]) d 1000 0 (Nat.zero_add _) (by omega)
  rw [kk_c (i := i) (c := t) es (fun j hj => by rw [h55 j, I.kd hj])] at b
  rw [hd, X_X9_broughtTo_53, XB_X9_broughtTo_53_e, Int.toNat_natCast]
  exact b
theorem lp_mk {M : am_M} (I : Ib M) {i : Nat} (hi : (i : Int) < M 11 0) : ∀ (e n t : Nat) (v : Int) (g : Nat → Int), (∀ j, j ≠ i → g j = M 55 j) → BS v (kS M i t) → t + e = 6 → e < n → ∃ w, XL_X9_kinds_53_3 XB_X9_kinds_53_8 n i (M 55 i) v t (am_row M 55 g) = some (w, M) ∧ BS w (kS M i 6) := by
  intro e
  have rs := I.rs
  have r0 := I.r0
  have r1 := I.r1
  induction e with
  | zero =>
    intro n t v g hg hv ht hn
    obtain ⟨n, rfl⟩ : ∃ m, n = m + 1 := ⟨n - 1, by omega⟩
    have : t = 6 := by omega
    subst this
    refine ⟨v, ?_, hv⟩
    rw [XL_X9_kinds_53_3, XB_X9_kinds_53_3, if_neg (by decide), XB_X9_kinds_53_8, wI_of (x := (i : Int)) (by omega) (by omega), if_pos (by omega), Int.toNat_natCast, up_row, row_row, row_s]
    have : (fun j => if j = i then M 55 i else g j) = M 55 := by
      funext j
      by_cases c : j = i
      · rw [if_pos c, c]
      · rw [if_neg c, hg j c]
    rw [this, row_self]
  | succ e ih =>
    intro n t v g hg hv ht hn
    obtain ⟨n, rfl⟩ : ∃ m, n = m + 1 := ⟨n - 1, by omega⟩
    have kr := kk_r I i t (M 14 0).toNat
    obtain ⟨g', hg'⟩ : ∃ g' : Nat → Int, g' = fun j => if j = i then (t : Int) else g j := ⟨_, rfl⟩
    have eu : am_up (am_row M 55 g) 55 i (t : Int) = am_row M 55 g' := by rw [up_row, row_row, row_s, hg']
    have b1 := sp_bk I (i := i) (t := t) (by omega) (N := am_row M 55 g') (fun a ha => row_a ha) (fun j => by
      rw [row_s, hg']
      dsimp only
      by_cases c : j = i
      · rw [if_pos c, if_pos c]
      · rw [if_neg c, if_neg c, hg j c])
    have ng : ∀ j, j ≠ i → g' j = M 55 j := fun j c => by rw [hg']; dsimp only; rw [if_neg c, hg j c]
    rw [XL_X9_kinds_53_3, XB_X9_kinds_53_3, wI_of (x := (t : Int)) (by omega) (by omega), if_pos (by omega), wI_of (x := (i : Int)) (by omega) (by omega), if_pos (by omega), Int.toNat_natCast, eu, row_a (by decide), I.first, I.d0, b1, ob]
    dsimp +instances only
    rw [row_a (by decide), I.d1, wI_of (x := kk M i t (M 14 0).toNat) (by omega) (by omega), wI_of (x := M 14 1) (by omega) (by omega), show (t : Int) + 1 = ((t + 1 : Nat) : Int) by omega]
    by_cases c : kk M i t (M 14 0).toNat = M 14 1
    · rw [if_pos c]
      exact ih n (t + 1) _ _ ng (kS_t (by omega) hv c) (by omega) (by omega)
    · rw [if_neg c]
      exact ih n (t + 1) _ _ ng (kS_f ((hv.or BS.z).c fun k _ => by simp) c) (by omega) (by omega)
theorem eq_kinds {M : am_M} (I : Inv M) {i : Int} (hi : iR i) : Step (X_X8_kinds_0 i) (X_X9_kinds_53 i) M := gd_kinds I hi fun h => by
  obtain ⟨i, rfl⟩ := Int.eq_ofNat_of_zero_le h.1
  have rs := I.rs
  obtain ⟨w, N, a1, k, a2⟩ := sp_ck I h.2
  have I1 : Inv N := Kp.inv I k
  have e11 : N 11 = M 11 := k.1 11 (by decide)
  obtain ⟨w2, b1, b2'⟩ := lp_mk I1.b (i := i) (by rw [e11]; exact h.2) 6 1000 0 0 (N 55) (fun j _ => rfl) (kS_0 N i) (by omega) (by omega)
  rw [row_self] at b1
  have c0 : X_X8_kinds_0 i M = some (w, N) := by
    rw [X_X8_kinds_0, sp_has_11 I.g11 hi, b2_t h, ob]
    dsimp +instances only
    rw [if_neg (by decide), a1, ob]
  have m0 : X_X9_kinds_53 i N = some (w2, N) := by
    have es : N 53 1 = M 11 0 := by rw [I1.es, e11]
    rw [X_X9_kinds_53, XB_X9_kinds_53_e, sp_isStrip ⟨I1.gM.1, I1.gM.2.1⟩ hi, es, b2_t h, ob]
    dsimp +instances only
    rw [if_neg (by decide), wI_of (x := (i : Int)) (by omega) (by omega), if_pos (by omega), Int.toNat_natCast]
    exact b1
  have ek : kS N i 6 = kS M i 6 := by
    funext q
    unfold kS kk
    rw [e11, k.1 12 (by decide), k.1 14 (by decide), k.1 15 (by decide), k.1 16 (by decide), k.1 17 (by decide)]
  rw [ek] at b2'
  exact st_kp I c0 k m0 (Kp.rf _) (a2.w b2')
end
section
/-! A land read out of a text: both sides read it alike. -/
noncomputable def sg (s : Nat → Int) (z p : Nat) : Int := if p < z then s p else 0
noncomputable def TX (t z : Nat) (s : Nat → Int) : Prop := t < 4 ∧ z ≤ 60 ∧ ∀ j, -128 ≤ s j ∧ s j ≤ 127
theorem sg_r {t z : Nat} {s : Nat → Int} (T : TX t z s) (p : Nat) : -128 ≤ sg s z p ∧ sg s z p ≤ 127 := by
  unfold sg
  split
  · exact T.2.2 p
  · omega
theorem sg_lt {s : Nat → Int} {z p : Nat} (h : sg s z p ≠ 0) : p < z := by
  by_cases c : p < z
  · exact c
  · exact absurd (if_neg c) h
theorem sg_in {s : Nat → Int} {z p : Nat} (h : p < z) : sg s z p = s p := if_pos h
theorem sg_z {s : Nat → Int} {z p : Nat} (h : z ≤ p) : sg s z p = 0 := if_neg (by omega)
noncomputable def skp (f : Nat → Int) : Nat → Nat → Nat
  | 0, p => p
  | e + 1, p => if f p = 32 then skp f e (p + 1) else p
theorem skp_more {f : Nat → Int} : ∀ (e k p : Nat), f (p + e) ≠ 32 → skp f (e + k) p = skp f e p
  | 0, 0, p, h => rfl
  | 0, k + 1, p, h => by
    have h' : f p ≠ 32 := h
    rw [Nat.zero_add, skp, skp, if_neg h']
  | e + 1, k, p, h => by
    rw [show e + 1 + k = (e + k) + 1 by omega, skp, skp]
    by_cases c : f p = 32
    · rw [if_pos c, if_pos c, skp_more e k (p + 1) (by rw [show p + 1 + e = p + (e + 1) by omega]; exact h)]
    · rw [if_neg c, if_neg c]
theorem skp_r (f : Nat → Int) : ∀ (e p : Nat), p ≤ skp f e p ∧ skp f e p ≤ p + e
  | 0, p => ⟨Nat.le_refl _, Nat.le_refl _⟩
  | e + 1, p => by
    rw [skp]
    have := skp_r f e (p + 1)
    split <;> omega
noncomputable def sk (s : Nat → Int) (z p : Nat) : Nat := skp (sg s z) (z - p) p
theorem sk_r {s : Nat → Int} {z p : Nat} (h : p ≤ z) : p ≤ sk s z p ∧ sk s z p ≤ z := by
  have := skp_r (sg s z) (z - p) p
  unfold sk; omega
theorem sk_60 {s : Nat → Int} {z p : Nat} (h : p ≤ z) (hz : z ≤ 60) : skp (sg s z) 60 p = sk s z p := by
  have := skp_more (f := sg s z) (z - p) (60 - (z - p)) p (by rw [sg_z (by omega)]; decide)
  rw [show z - p + (60 - (z - p)) = 60 by omega] at this
  exact this
theorem up_same {M : am_M} {a j : Nat} {x : Int} (h : M a j = x) : am_up M a j x = M := by
  rw [up_row, show (fun i => if i = j then x else M a i) = M a by
    funext i
    by_cases c : i = j
    · rw [if_pos c, c, h]
    · rw [if_neg c], row_self]
theorem up_up {M : am_M} {a j : Nat} {x y : Int} : am_up (am_up M a j x) a j y = am_up M a j y := by
  rw [up_row, up_row, row_row, row_s, up_row]
  congr 1
  funext i
  by_cases c : i = j
  · rw [if_pos c, if_pos c]
  · rw [if_neg c, if_neg c, if_neg c]
/-! the class's reader at place p, with n strips read -/
noncomputable def CR (t z : Nat) (s : Nat → Int) (p n : Nat) (C : am_M) : Prop := Sh4 C ∧ C 5 t = z ∧ (∀ j, j < z → C 6 (60 * t + j) = s j) ∧ C 7 5 = t ∧ C 7 6 = p ∧ C 8 0 = n ∧ (∀ i, 0 ≤ C 9 i ∧ C 9 i ≤ 5) ∧ ∀ i, 0 ≤ C 10 i ∧ C 10 i ≤ 9
theorem CR.mv {t z : Nat} {s : Nat → Int} {p n : Nat} {C : am_M} (h : CR t z s p n C) (q : Nat) : CR t z s q n (am_up C 7 6 (q : Int)) := by
  obtain ⟨h1, h2, h3, h4, h5, h6, h7, h8⟩ := h
  unfold CR Sh4 at *
  rw [up_a (a' := 4) (by decide), up_a (a' := 5) (by decide), up_a (a' := 6) (by decide), up_a (a' := 8) (by decide), up_a (a' := 9) (by decide), up_a (a' := 10) (by decide), up_j (by decide), up_s]
  exact ⟨h1, h2, h3, h4, rfl, h6, h7, h8⟩
theorem CR.u7 {t z : Nat} {s : Nat → Int} {p n : Nat} {C : am_M} (h : CR t z s p n C) (j : Nat) (x : Int) (h5' : 5 ≠ j) (h6' : 6 ≠ j) : CR t z s p n (am_up C 7 j x) := by
  obtain ⟨h1, h2, h3, h4, h5, h6, h7, h8⟩ := h
  unfold CR Sh4 at *
  rw [up_a (a' := 4) (by decide), up_a (a' := 5) (by decide), up_a (a' := 6) (by decide), up_a (a' := 8) (by decide), up_a (a' := 9) (by decide), up_a (a' := 10) (by decide), up_j h5', up_j h6']
  exact ⟨h1, h2, h3, h4, h5, h6, h7, h8⟩
theorem CR.add {t z : Nat} {s : Nat → Int} {p n : Nat} {C : am_M} (h : CR t z s p n C) {k d : Int} (hk : 0 ≤ k ∧ k ≤ 5) (hd : 0 ≤ d ∧ d ≤ 9) : CR t z s p (n + 1) (am_up (am_up (am_up C 9 n k) 10 n d) 8 0 ((n + 1 : Nat) : Int)) := by
  obtain ⟨h1, h2, h3, h4, h5, h6, h7, h8⟩ := h
  unfold CR Sh4 at *
  rw [up_a (a' := 4) (by decide), up_a (a' := 4) (by decide), up_a (a' := 4) (by decide), up_a (a' := 5) (by decide), up_a (a' := 5) (by decide), up_a (a' := 5) (by decide), up_a (a' := 6) (by decide), up_a (a' := 6) (by decide), up_a (a' := 6) (by decide), up_a (a' := 7) (by decide), up_a (a' := 7) (by decide), up_a (a' := 7) (by decide), up_s, up_a (a' := 9) (by decide), up_a (a' := 9) (by decide), up_a (a' := 10) (a := 8) (by decide)]
  refine ⟨h1, h2, h3, h4, h5, rfl, fun i => ?_, fun i => ?_⟩
  · by_cases c : i = n
    · rw [c, up_s]; exact hk
    · rw [up_j c]; exact h7 i
  · by_cases c : i = n
    · rw [c, up_s]; exact hd
    · rw [up_j c, up_a (by decide)]; exact h8 i
theorem c_sign {t z : Nat} {s : Nat → Int} {p n : Nat} {C : am_M} (T : TX t z s) (h : CR t z s p n C) (hp : p ≤ z) : X_X5_sign_7 C = some (sg s z p, C) := by
  obtain ⟨h1, h2, h3, h4, h5, h6, h7, h8⟩ := h
  obtain ⟨t1, t2, t3⟩ := T
  rw [X_X5_sign_7, h4, h5, sp_get_4 h1 (by omega) (by unfold iR; omega), ob, Int.toNat_natCast, h2]
  dsimp only
  unfold sg
  by_cases c : p < z
  · rw [if_pos (by omega), if_pos c, show ((60 : Int) * t + p).toNat = 60 * t + p by omega, h3 p c]
  · rw [if_neg (by omega), if_neg c]
theorem lp_csk {t z : Nat} {s : Nat → Int} {n : Nat} (T : TX t z s) : ∀ (e n1 i p : Nat) (C : am_M), i + e = 60 → e < n1 → CR t z s p n C → p ≤ z → XL_X5_skipBlanks_7_1 XB_X5_skipBlanks_7_4 n1 i C = some (0, am_up C 7 6 (skp (sg s z) e p : Nat)) := by
  intro e
  induction e with
  | zero =>
    intro n1 i p C hi hn h hp
    obtain ⟨n1, rfl⟩ : ∃ m, n1 = m + 1 := ⟨n1 - 1, by omega⟩
    rw [XL_X5_skipBlanks_7_1, XB_X5_skipBlanks_7_1, wI_of (x := (i : Int)) (by omega) (by omega), if_neg (by omega), skp, up_same h.2.2.2.2.1]
    rfl
  | succ e ih =>
    intro n1 i p C hi hn h hp
    obtain ⟨n1, rfl⟩ : ∃ m, n1 = m + 1 := ⟨n1 - 1, by omega⟩
    have sr := sg_r T p
    rw [XL_X5_skipBlanks_7_1, XB_X5_skipBlanks_7_1, wI_of (x := (i : Int)) (by omega) (by omega), if_pos (by omega), c_sign T h hp, ob]
    dsimp +instances only
    rw [wI_of (x := sg s z p) (by omega) (by omega), skp]
    by_cases c : sg s z p = 32
    · have hp2 : p < z := sg_lt (s := s) (by rw [c]; decide)
      rw [if_pos c, if_pos c, h.2.2.2.2.1, show (p : Int) + 1 = ((p + 1 : Nat) : Int) by omega, show (i : Int) + 1 = ((i + 1 : Nat) : Int) by omega, ih n1 (i + 1) (p + 1) _ (by omega) (by omega) (h.mv (p + 1)) (by omega), up_up]
    · rw [if_neg c, if_neg c, up_same h.2.2.2.2.1]
      rfl
theorem c_skip {t z : Nat} {s : Nat → Int} {p n : Nat} {C : am_M} (T : TX t z s) (h : CR t z s p n C) (hp : p ≤ z) : X_X5_skipBlanks_7 C = some (0, am_up C 7 6 (sk s z p : Nat)) := by
  have := lp_csk T 60 1000 0 p C (by omega) (by omega) h hp
  rw [sk_60 hp T.2.1] at this
  rw [X_X5_skipBlanks_7, XB_X5_skipBlanks_7_e]
  exact this
noncomputable def FG (s : Nat → Int) (z p : Nat) (lo hi : Int) : Prop := 48 + lo ≤ sg s z p ∧ sg s z p ≤ 48 + hi
theorem c_fig {t z : Nat} {s : Nat → Int} {p n : Nat} {C : am_M} (T : TX t z s) (h : CR t z s p n C) (hp : p ≤ z) {lo hi hh : Int} (hl : 0 ≤ lo ∧ lo ≤ 9) (hi' : 0 ≤ hi ∧ hi ≤ 12) (e : hh = if hi < 9 then hi else 9) : (FG s z p lo hh → X_X5_readFigure_7 lo hi C = some (sg s z p - 48, am_up C 7 6 ((p + 1 : Nat) : Int))) ∧ (¬ FG s z p lo hh → X_X5_readFigure_7 lo hi C = some (-1, C)) := by
  have sr := sg_r T p
  have e2 : (hi < 9 ∧ hh = hi) ∨ (9 ≤ hi ∧ hh = 9) := by
    by_cases c : hi < 9
    · rw [if_pos c] at e; exact Or.inl ⟨c, e⟩
    · rw [if_neg c] at e; exact Or.inr ⟨by omega, e⟩
  rw [X_X5_readFigure_7, c_sign T h hp, ob]
  dsimp +instances only
  rw [wI_of (x := sg s z p) (by omega) (by omega), wI_of (x := sg s z p - 48) (by omega) (by omega), wI_of (x := lo) (by omega) (by omega), wI_of (x := hi) (by omega) (by omega), h.2.2.2.2.1]
  unfold FG
  constructor
  · intro f
    rw [if_neg (by omega), if_neg (by omega), if_neg (by omega), if_neg (by omega)]
    rfl
  · intro f
    by_cases c1 : sg s z p < 48
    · rw [if_pos c1]
    · rw [if_neg c1]
      by_cases c2 : 57 < sg s z p
      · rw [if_pos c2]
      · rw [if_neg c2]
        by_cases c3 : sg s z p - 48 < lo
        · rw [if_pos c3]
        · rw [if_neg c3, if_pos (by omega)]
noncomputable def kdc (x : Int) : Int := if x = 115 then 0 else if x = 102 then 1 else if x = 119 then 2 else if x = 114 then 3 else if x = 105 then 4 else if x = 116 then 5 else -1
theorem kdc_r (x : Int) : -1 ≤ kdc x ∧ kdc x ≤ 5 := by
  unfold kdc
  repeat' split
  all_goals omega
theorem kdc_0 {x : Int} (h : kdc x ≠ -1) : x ≠ 0 := fun e => h (by rw [e]; rfl)
theorem c_kind {x : Int} (hx : iR x) (C : am_M) : X_X5_kindOfSign x C = some (kdc x, C) := by
  unfold X_X5_kindOfSign kdc
  rw [wI_R hx]
  by_cases c : 102 ≤ x ∧ x ≤ 119
  · rcases (show x = 102 ∨ x = 103 ∨ x = 104 ∨ x = 105 ∨ x = 106 ∨ x = 107 ∨ x = 108 ∨ x = 109 ∨ x = 110 ∨ x = 111 ∨ x = 112 ∨ x = 113 ∨ x = 114 ∨ x = 115 ∨ x = 116 ∨ x = 117 ∨ x = 118 ∨ x = 119 by omega) with rfl | rfl | rfl | rfl | rfl | rfl | rfl | rfl | rfl | rfl | rfl | rfl | rfl | rfl | rfl | rfl | rfl | rfl <;> rfl
  · rw [if_neg (by omega), if_neg (by omega), if_neg (by omega), if_neg (by omega), if_neg (by omega), if_neg (by omega), if_neg (by omega), if_neg (by omega), if_neg (by omega), if_neg (by omega), if_neg (by omega), if_neg (by omega), if_neg (by omega), if_neg (by omega), if_neg (by omega), if_neg (by omega), if_neg (by omega), if_neg (by omega), if_neg (by omega), if_neg (by omega), if_neg (by omega), if_neg (by omega), if_neg (by omega), if_neg (by omega)]
/-! the model's reader -/
noncomputable def MR (t z : Nat) (s : Nat → Int) (p n : Nat) (D : am_M) : Prop := (∀ j, j < z → D 60 (60 * t + j) = s j) ∧ D 53 13 = ((60 * t : Nat) : Int) ∧ D 53 14 = p ∧ D 53 15 = z ∧ D 53 17 = n
theorem MR.mv {t z : Nat} {s : Nat → Int} {p n : Nat} {D : am_M} (h : MR t z s p n D) (q : Nat) : MR t z s q n (am_up D 53 14 (q : Int)) := by
  obtain ⟨h1, h2, h3, h4, h5⟩ := h
  unfold MR
  rw [up_a (a' := 60) (by decide), up_j (by decide), up_s, up_j (by decide), up_j (by decide)]
  exact ⟨h1, h2, rfl, h4, h5⟩
theorem MR.u {t z : Nat} {s : Nat → Int} {p n : Nat} {D : am_M} (h : MR t z s p n D) {a j : Nat} {x : Int} (ha : a = 62 ∨ a = 63) : MR t z s p n (am_up D a j x) := by
  obtain ⟨h1, h2, h3, h4, h5⟩ := h
  unfold MR
  rw [up_a (a' := 60) (by omega), up_a (a' := 53) (by omega)]
  exact ⟨h1, h2, h3, h4, h5⟩
theorem MR.n {t z : Nat} {s : Nat → Int} {p n : Nat} {D : am_M} (h : MR t z s p n D) (m : Nat) : MR t z s p m (am_up D 53 17 (m : Int)) := by
  obtain ⟨h1, h2, h3, h4, h5⟩ := h
  unfold MR
  rw [up_a (a' := 60) (by decide), up_j (by decide), up_j (by decide), up_j (by decide), up_s]
  exact ⟨h1, h2, h3, h4, rfl⟩
theorem m_here {t z : Nat} {s : Nat → Int} {p n : Nat} {D : am_M} (T : TX t z s) (h : MR t z s p n D) (hp : p < z) : X_X9_here_53 D = some (s p, D) := by
  obtain ⟨t1, t2, t3⟩ := T
  rw [X_X9_here_53, h.2.1, h.2.2.1, show ((60 * t : Nat) : Int) + (p : Int) = ((60 * t + p : Nat) : Int) by omega, wI_of (x := ((60 * t + p : Nat) : Int)) (by omega) (by omega), if_pos (by omega), Int.toNat_natCast, h.1 p hp]
theorem lp_msk {t z : Nat} {s : Nat → Int} {n : Nat} (T : TX t z s) : ∀ (e n1 p : Nat) (D : am_M), p + e = z → e < n1 → MR t z s p n D → XL_X9_skip_53_0 XB_X9_skip_53_3 n1 D = some (0, am_up D 53 14 (skp (sg s z) e p : Nat)) := by
  intro e
  have t2 := T.2.1
  induction e with
  | zero =>
    intro n1 p D hp hn h
    obtain ⟨n1, rfl⟩ : ∃ m, n1 = m + 1 := ⟨n1 - 1, by omega⟩
    rw [XL_X9_skip_53_0, XB_X9_skip_53_0, h.2.2.1, h.2.2.2.1, wI_of (x := (p : Int)) (by omega) (by omega), wI_of (x := (z : Int)) (by omega) (by omega), if_neg (by omega), skp, up_same h.2.2.1]
    rfl
  | succ e ih =>
    intro n1 p D hp hn h
    obtain ⟨n1, rfl⟩ : ∃ m, n1 = m + 1 := ⟨n1 - 1, by omega⟩
    have sr := T.2.2 p
    rw [XL_X9_skip_53_0, XB_X9_skip_53_0, h.2.2.1, h.2.2.2.1, wI_of (x := (p : Int)) (by omega) (by omega), wI_of (x := (z : Int)) (by omega) (by omega), if_pos (by omega), m_here T h (by omega), ob]
    dsimp +instances only
    rw [wI_of (x := s p) (by omega) (by omega), skp, sg_in (by omega)]
    by_cases c : s p = 32
    · rw [if_pos c, if_pos c, h.2.2.1, show (p : Int) + 1 = ((p + 1 : Nat) : Int) by omega, ih n1 (p + 1) _ (by omega) (by omega) (h.mv (p + 1)), up_up]
    · rw [if_neg c, if_neg c, up_same h.2.2.1]
      rfl
theorem m_skip {t z : Nat} {s : Nat → Int} {p n : Nat} {D : am_M} (T : TX t z s) (h : MR t z s p n D) (hp : p ≤ z) : X_X9_skip_53 D = some (0, am_up D 53 14 (sk s z p : Nat)) := by
  have := lp_msk T (z - p) (1000 + 1) p D (by omega) (by have := T.2.1; omega) h
  rw [XL_X9_skip_53_0] at this
  exact this
theorem m_fig {t z : Nat} {s : Nat → Int} {p n : Nat} {D : am_M} (T : TX t z s) (h : MR t z s p n D) (hp : p ≤ z) {lo hi : Int} (hl : 0 ≤ lo ∧ lo ≤ 9) (hi' : 0 ≤ hi ∧ hi ≤ 9) : (FG s z p lo hi → X_X9_figure_53 lo hi D = some (sg s z p - 48, am_up D 53 14 ((p + 1 : Nat) : Int))) ∧ (¬ FG s z p lo hi → X_X9_figure_53 lo hi D = some (-9, D)) := by
  have sr := T.2.2 p
  have t1 := T.1
  have t2 := T.2.1
  have hm := h.mv (p + 1)
  unfold FG
  rw [X_X9_figure_53, h.2.2.1, h.2.2.2.1, wI_of (x := (p : Int)) (by omega) (by omega), wI_of (x := (z : Int)) (by omega) (by omega)]
  by_cases c : p < z
  · rw [if_neg (by omega), m_here T h c, ob]
    dsimp +instances only
    rw [wI_of (x := s p) (by omega) (by omega), wI_of (x := 48 + lo) (by omega) (by omega), wI_of (x := 48 + hi) (by omega) (by omega), sp_in D (by unfold iR; omega) (by unfold iR; omega) (by unfold iR; omega), ob]
    dsimp +instances only
    rw [h.2.2.1, show (p : Int) + 1 = ((p + 1 : Nat) : Int) by omega, hm.2.1, hm.2.2.1, sg_in c, show ((60 * t : Nat) : Int) + ((p + 1 : Nat) : Int) - 1 = ((60 * t + p : Nat) : Int) by omega, wI_of (x := ((60 * t + p : Nat) : Int)) (by omega) (by omega), Int.toNat_natCast, hm.1 p c]
    constructor
    · intro f
      rw [b2_t f, if_neg (by decide), if_pos (by omega)]
    · intro f
      rw [b2_f f, if_pos wI_0]
  · rw [if_pos (by omega)]
    constructor
    · intro f
      rw [sg_z (by omega)] at f; omega
    · intro f; rfl
theorem m_kind {t z : Nat} {s : Nat → Int} {p n : Nat} {D : am_M} (T : TX t z s) (h : MR t z s p n D) (hp : p < z) : X_X9_kindHere_53 D = some (if kdc (s p) = -1 then -9 else kdc (s p), D) := by
  have sr := T.2.2 p
  rw [X_X9_kindHere_53, m_here T h hp, ob]
  dsimp +instances only
  rw [wI_of (x := s p) (by omega) (by omega)]
  unfold kdc
  repeat' split
  all_goals first | rfl | (exfalso; omega)
/-! one strip -/
noncomputable def sK (s : Nat → Int) (z q : Nat) : Int := kdc (sg s z q)
noncomputable def cAdd (C : am_M) (q n : Nat) (k d : Int) : am_M := am_up (am_up (am_up (am_up C 7 6 ((q + 2 : Nat) : Int)) 9 n k) 10 n d) 8 0 ((n + 1 : Nat) : Int)
theorem c_strip0 {t z : Nat} {s : Nat → Int} {q n : Nat} {C : am_M} (T : TX t z s) (h : CR t z s q n C) (hq : q ≤ z) (hn : n ≤ 12) (c : sK s z q = -1 ∨ n = 12) : X_X5_readStrip_7 C = some (0, C) := by
  have sr := sg_r T q
  have kr := kdc_r (sg s z q)
  rw [X_X5_readStrip_7, c_sign T h hq, ob]
  dsimp +instances only
  rw [c_kind (by unfold iR; omega), ob]
  dsimp +instances only
  rw [wI_of (x := kdc (sg s z q)) (by omega) (by omega)]
  by_cases c1 : sK s z q = -1
  · unfold sK at c1
    rw [if_pos (by omega)]
  · have hn2 : n = 12 := c.resolve_left c1
    unfold sK at c1
    rw [if_neg (by omega), X_X2_hasRoom_8, h.2.2.2.2.2.1, hn2, if_neg (by decide), ob]
    dsimp +instances only
    rw [if_pos wI_0]
theorem c_strip1 {t z : Nat} {s : Nat → Int} {q n : Nat} {C : am_M} (T : TX t z s) (h : CR t z s q n C) (hq : q ≤ z) (hn : n < 12) (c : sK s z q ≠ -1) : q < z ∧ (FG s z (q + 1) 0 9 → X_X5_readStrip_7 C = some (1, cAdd C q n (sK s z q) (sg s z (q + 1) - 48))) ∧ (¬ FG s z (q + 1) 0 9 → X_X5_readStrip_7 C = some (0, am_up C 7 6 ((q + 1 : Nat) : Int))) := by
  have sr := sg_r T q
  have kr := kdc_r (sg s z q)
  have hz : q < z := sg_lt (s := s) (kdc_0 c)
  have h1 := h.mv (q + 1)
  have f := c_fig T h1 (by omega) (lo := 0) (hi := 9) (hh := 9) (by decide) (by decide) (by decide)
  unfold sK at c ⊢
  have e0 : X_X5_readStrip_7 C = (X_X5_readFigure_7 0 9 (am_up C 7 6 ((q + 1 : Nat) : Int))).bind fun z4 => if wI z4.1 < 0 then some (0, z4.2) else (X_X2_add_8 (kdc (sg s z q)) z4.1 z4.2).bind fun z5 => some (1, z5.2) := by
    rw [X_X5_readStrip_7, c_sign T h hq, ob]
    dsimp +instances only
    rw [c_kind (by unfold iR; omega), ob]
    dsimp +instances only
    rw [wI_of (x := kdc (sg s z q)) (by omega) (by omega), if_neg (by omega), X_X2_hasRoom_8, h.2.2.2.2.2.1, wI_of (x := (n : Int)) (by omega) (by omega), if_pos (by omega), ob]
    dsimp +instances only
    rw [if_neg (by decide), h.2.2.2.2.1, show (q : Int) + 1 = ((q + 1 : Nat) : Int) by omega]
  refine ⟨hz, fun g => ?_, fun g => ?_⟩
  · have g2 := g
    unfold FG at g2
    rw [e0, f.1 g, ob]
    dsimp +instances only
    rw [wI_of (x := sg s z (q + 1) - 48) (by omega) (by omega), if_neg (by omega), up_up]
    have h2 := h.mv (q + 2)
    have n8 := h2.2.2.2.2.2.1
    rw [show q + 1 + 1 = q + 2 from rfl, X_X2_add_8, X_X2_hasRoom_8, n8, wI_of (x := (n : Int)) (by omega) (by omega), if_pos (by omega), ob]
    dsimp +instances only
    rw [up_a (a' := 8) (a := 9) (by decide), n8, wI_of (x := (n : Int)) (by omega) (by omega), Int.toNat_natCast, if_neg (by decide), if_pos (by omega), if_pos (by omega), up_a (a' := 8) (a := 10) (by decide), up_a (a' := 8) (a := 9) (by decide), n8, ob, show (n : Int) + 1 = ((n + 1 : Nat) : Int) by omega]
    rfl
  · rw [e0, f.2 g, ob]
    dsimp +instances only
    rw [if_pos (by decide)]
noncomputable def mAdd (D : am_M) (q n : Nat) (k d : Int) : am_M := am_up (am_up (am_up (am_up D 53 14 ((q + 2 : Nat) : Int)) 62 (2 * n) k) 62 (2 * n + 1) d) 53 17 ((n + 1 : Nat) : Int)
theorem m_strip0 {t z : Nat} {s : Nat → Int} {q n : Nat} {D : am_M} (T : TX t z s) (h : MR t z s q n D) (hq : q < z) (hn : n ≤ 12) (c : sK s z q = -1 ∨ n = 12) : X_X9_readsStrip_53 D = some (0, D) := by
  have kr := kdc_r (s q)
  unfold sK at c
  rw [sg_in hq] at c
  rw [X_X9_readsStrip_53, m_kind T h hq, ob]
  dsimp +instances only
  by_cases c1 : kdc (s q) = -1
  · rw [if_pos c1, if_pos (by decide)]
  · rw [if_neg c1, wI_of (x := kdc (s q)) (by omega) (by omega), if_neg (by omega), h.2.2.2.2, c.resolve_left c1, if_pos (by decide)]
theorem m_strip1 {t z : Nat} {s : Nat → Int} {q n : Nat} {D : am_M} (T : TX t z s) (h : MR t z s q n D) (hq : q < z) (hn : n < 12) (c : sK s z q ≠ -1) : (FG s z (q + 1) 0 9 → X_X9_readsStrip_53 D = some (1, mAdd D q n (sK s z q) (sg s z (q + 1) - 48))) ∧ (¬ FG s z (q + 1) 0 9 → X_X9_readsStrip_53 D = some (0, am_up D 53 14 ((q + 1 : Nat) : Int))) := by
  have kr := kdc_r (s q)
  have sr := sg_r T (q + 1)
  have f := m_fig T (h.mv (q + 1)) (by omega) (lo := 0) (hi := 9) (by decide) (by decide)
  have e0 : X_X9_readsStrip_53 D = (X_X9_figure_53 0 9 (am_up D 53 14 ((q + 1 : Nat) : Int))).bind fun z2 => if wI z2.1 = (-9) then some (0, z2.2) else if 0 ≤ wI (2 * (z2.2 53 17)) ∧ wI (2 * (z2.2 53 17)) < 24 then if 0 ≤ wI ((2 * ((am_up z2.2 62 (wI (2 * (z2.2 53 17))).toNat (sK s z q)) 53 17)) + 1) ∧ wI ((2 * ((am_up z2.2 62 (wI (2 * (z2.2 53 17))).toNat (sK s z q)) 53 17)) + 1) < 24 then some (1, (am_up (am_up (am_up z2.2 62 (wI (2 * (z2.2 53 17))).toNat (sK s z q)) 62 (wI ((2 * ((am_up z2.2 62 (wI (2 * (z2.2 53 17))).toNat (sK s z q)) 53 17)) + 1)).toNat z2.1) 53 17 (((am_up (am_up z2.2 62 (wI (2 * (z2.2 53 17))).toNat (sK s z q)) 62 (wI ((2 * ((am_up z2.2 62 (wI (2 * (z2.2 53 17))).toNat (sK s z q)) 53 17)) + 1)).toNat z2.1) 53 17) + 1))) else none else none := by
    unfold sK at c ⊢
    rw [sg_in hq] at c ⊢
    rw [X_X9_readsStrip_53, m_kind T h hq, ob]
    dsimp +instances only
    rw [if_neg c, wI_of (x := kdc (s q)) (by omega) (by omega), if_neg (by omega), h.2.2.2.2, wI_of (x := (n : Int)) (by omega) (by omega), if_neg (by omega), h.2.2.1, show (q : Int) + 1 = ((q + 1 : Nat) : Int) by omega]
  refine ⟨fun g => ?_, fun g => ?_⟩
  · have g2 := g
    unfold FG at g2
    rw [e0, f.1 g, ob]
    dsimp +instances only
    have n17 := ((h.mv (q + 1)).mv (q + 1 + 1)).2.2.2.2
    rw [wI_of (x := sg s z (q + 1) - 48) (by omega) (by omega), if_neg (by omega), up_a (a' := 53) (a := 62) (by decide), n17, show 2 * (n : Int) = ((2 * n : Nat) : Int) by omega, show ((2 * n : Nat) : Int) + 1 = ((2 * n + 1 : Nat) : Int) by omega, wI_of (x := ((2 * n : Nat) : Int)) (by omega) (by omega), wI_of (x := ((2 * n + 1 : Nat) : Int)) (by omega) (by omega), Int.toNat_natCast, Int.toNat_natCast, if_pos (by omega), if_pos (by omega), up_a (a' := 53) (a := 62) (by decide), up_a (a' := 53) (a := 62) (by decide), n17, show (n : Int) + 1 = ((n + 1 : Nat) : Int) by omega, up_up]
    rfl
  · rw [e0, f.2 g, ob]
    dsimp +instances only
    rw [if_pos (by decide)]
end
section
/-! the end of a land -/
noncomputable def FC (C C' : am_M) : Prop := ∀ a, a ≠ 7 → a ≠ 8 → a ≠ 9 → a ≠ 10 → C' a = C a
noncomputable def FD (D D' : am_M) : Prop := (∀ a, a ≠ 53 → a ≠ 62 → a ≠ 63 → D' a = D a) ∧ ∀ j, (j = 1 ∨ (8 ≤ j ∧ j ≤ 11)) → D' 53 j = D 53 j
theorem FC.rf (C : am_M) : FC C C := fun _ _ _ _ _ => rfl
theorem FC.tr {A B C : am_M} (h : FC A B) (g : FC B C) : FC A C := fun a h1 h2 h3 h4 => (g a h1 h2 h3 h4).trans (h a h1 h2 h3 h4)
theorem FC.up {C : am_M} {a j : Nat} {x : Int} (h : a = 7 ∨ a = 8 ∨ a = 9 ∨ a = 10) : FC C (am_up C a j x) := fun b h1 h2 h3 h4 => up_a (by omega)
theorem FD.rf (D : am_M) : FD D D := ⟨fun _ _ _ _ => rfl, fun _ _ => rfl⟩
theorem FD.tr {A B C : am_M} (h : FD A B) (g : FD B C) : FD A C := ⟨fun a h1 h2 h3 => (g.1 a h1 h2 h3).trans (h.1 a h1 h2 h3), fun j hj => (g.2 j hj).trans (h.2 j hj)⟩
theorem FD.u53 {D : am_M} {j : Nat} {x : Int} (h : 13 ≤ j) : FD D (am_up D 53 j x) := ⟨fun a h1 _ _ => up_a h1, fun i hi => up_j (by omega)⟩
theorem FD.u {D : am_M} {a j : Nat} {x : Int} (h : a = 62 ∨ a = 63) : FD D (am_up D a j x) := ⟨fun b h1 h2 h3 => up_a (by omega), fun i hi => by rw [up_a (by omega)]⟩
/-- a land that was read whole, on both sides -/
noncomputable def LD (C D : am_M) (m : Nat) : Prop := (2 ≤ m ∧ m ≤ 12) ∧ C 8 0 = m ∧ D 53 17 = m ∧ (∀ j, j < m → D 62 (2 * j) = C 9 j ∧ D 62 (2 * j + 1) = C 10 j) ∧ (D 63 0 = C 7 1 ∧ D 63 1 = C 7 2 ∧ D 63 2 = C 7 3) ∧ (0 ≤ C 7 1 ∧ C 7 1 ≤ m) ∧ (0 ≤ C 7 2 ∧ C 7 2 ≤ 9) ∧ (0 ≤ C 7 3 ∧ C 7 3 ≤ 9)
noncomputable def OUT (C D : am_M) (v : Int) (C' D' : am_M) : Prop := FC C C' ∧ FD D D' ∧ ((∀ i, 0 ≤ C' 9 i ∧ C' 9 i ≤ 5) ∧ ∀ i, 0 ≤ C' 10 i ∧ C' 10 i ≤ 9) ∧ (-9 ≤ v ∧ v ≤ 60) ∧ (v = -9 → ∃ m, LD C' D' m)
theorem m_e0 (k : am_M → am_Rs) {t z : Nat} {s : Nat → Int} {q n : Nat} {D : am_M} (T : TX t z s) (h : MR t z s q n D) (hq : q ≤ z) (hn : n ≤ 12) (n1 : Nat) {hh : Int} (e : hh = if (n : Int) < 9 then (n : Int) else 9) : (FG s z q 0 hh → XL_X9_readsEnd_53_3 k (n1 + 1) 0 D = XL_X9_readsEnd_53_3 k n1 1 (am_up (am_up D 53 14 ((q + 1 : Nat) : Int)) 63 0 (sg s z q - 48))) ∧ (¬ FG s z q 0 hh → XL_X9_readsEnd_53_3 k (n1 + 1) 0 D = some (0, am_up D 63 0 (-9))) := by
  have sr := sg_r T q
  rw [XL_X9_readsEnd_53_3, XB_X9_readsEnd_53_3, wI_0, if_pos (by decide), if_pos rfl, h.2.2.2.2, wI_of (x := (n : Int)) (by omega) (by omega), show (0 : Int).toNat = 0 from rfl]
  by_cases c : (n : Int) < 9
  · rw [if_pos c] at e
    have f := m_fig T h hq (lo := 0) (hi := hh) (by decide) (by omega)
    rw [if_pos c, ← e]
    refine ⟨fun g => ?_, fun g => ?_⟩
    · have g2 := g
      unfold FG at g2
      rw [f.1 g, ob]
      dsimp +instances only
      rw [if_pos (by decide), if_pos (by decide), up_s, wI_of (x := sg s z q - 48) (by omega) (by omega), if_neg (by omega)]
      rfl
    · rw [f.2 g, ob]
      dsimp +instances only
      rw [if_pos (by decide), if_pos (by decide), up_s, if_pos (by decide)]
  · rw [if_neg c] at e
    have f := m_fig T h hq (lo := 0) (hi := 9) (by decide) (by decide)
    rw [if_neg c]
    rw [e]
    refine ⟨fun g => ?_, fun g => ?_⟩
    · have g2 := g
      unfold FG at g2
      rw [f.1 g, ob]
      dsimp +instances only
      rw [if_pos (by decide), if_pos (by decide), up_s, wI_of (x := sg s z q - 48) (by omega) (by omega), if_neg (by omega)]
      rfl
    · rw [f.2 g, ob]
      dsimp +instances only
      rw [if_pos (by decide), if_pos (by decide), up_s, if_pos (by decide)]
theorem m_e1 (k : am_M → am_Rs) {t z : Nat} {s : Nat → Int} {q n : Nat} {D : am_M} (T : TX t z s) (h : MR t z s q n D) (hq : q ≤ z) (n1 : Nat) {v : Nat} (hv : v = 1 ∨ v = 2) : (FG s z q 1 9 → XL_X9_readsEnd_53_3 k (n1 + 1) v D = XL_X9_readsEnd_53_3 k n1 ((v + 1 : Nat) : Int) (am_up (am_up D 53 14 ((q + 1 : Nat) : Int)) 63 v (sg s z q - 48))) ∧ (¬ FG s z q 1 9 → XL_X9_readsEnd_53_3 k (n1 + 1) v D = some (0, am_up D 63 v (-9))) := by
  have sr := sg_r T q
  have f := m_fig T h hq (lo := 1) (hi := 9) (by decide) (by decide)
  rw [XL_X9_readsEnd_53_3, XB_X9_readsEnd_53_3, wI_of (x := (v : Int)) (by omega) (by omega), if_pos (by omega), if_neg (by omega), Int.toNat_natCast]
  refine ⟨fun g => ?_, fun g => ?_⟩
  · have g2 := g
    unfold FG at g2
    rw [f.1 g, ob]
    dsimp +instances only
    rw [if_pos (by omega), if_pos (by omega), up_s, wI_of (x := sg s z q - 48) (by omega) (by omega), if_neg (by omega)]
    rfl
  · rw [f.2 g, ob]
    dsimp +instances only
    rw [if_pos (by omega), if_pos (by omega), up_s, if_pos (by decide)]
theorem OUT.f {C D C' D' : am_M} {q : Nat} (h1 : FC C C') (h2 : FD D D') (h3 : (∀ i, 0 ≤ C' 9 i ∧ C' 9 i ≤ 5) ∧ ∀ i, 0 ≤ C' 10 i ∧ C' 10 i ≤ 9) (hq : q ≤ 60) : OUT C D (q : Int) C' D' := ⟨h1, h2, h3, by omega, fun e => by omega⟩
theorem OUT.tr {C D C1 D1 C' D' : am_M} {v : Int} (h1 : FC C C1) (h2 : FD D D1) (h : OUT C1 D1 v C' D') : OUT C D v C' D' := ⟨h1.tr h.1, h2.tr h.2.1, h.2.2⟩
noncomputable def cK3 (X : am_M) : am_Rs := (X_X5_skipBlanks_7 X).bind fun z4 => (X_X6_sizeOf_4 (z4.2 7 5) z4.2).bind fun z5 => if wI (z4.2 7 6) < wI z5.1 then some (0, z5.2) else some (1, z5.2)
noncomputable def cK2 (X : am_M) : am_Rs := (X_X5_readFigure_7 1 9 X).bind fun z3 => if wI ((am_up z3.2 7 3 z3.1) 7 3) < 0 then some (0, (am_up z3.2 7 3 z3.1)) else cK3 (am_up z3.2 7 3 z3.1)
noncomputable def cK1 (X : am_M) : am_Rs := (X_X5_readFigure_7 1 9 X).bind fun z2 => if wI ((am_up z2.2 7 2 z2.1) 7 2) < 0 then some (0, (am_up z2.2 7 2 z2.1)) else cK2 (am_up z2.2 7 2 z2.1)
theorem c_end (C : am_M) : X_X5_readEnd_7 C = (X_X5_readFigure_7 0 ((am_up C 7 6 ((C 7 6) + 1)) 8 0) (am_up C 7 6 ((C 7 6) + 1))).bind fun z1 => if wI ((am_up z1.2 7 1 z1.1) 7 1) < 0 then some (0, (am_up z1.2 7 1 z1.1)) else cK1 (am_up z1.2 7 1 z1.1) := rfl
theorem c_k3 {t z : Nat} {s : Nat → Int} {p n : Nat} {C : am_M} (T : TX t z s) (h : CR t z s p n C) (hp : p ≤ z) : cK3 C = some (if sk s z p < z then 0 else 1, am_up C 7 6 (sk s z p : Nat)) := by
  have t1 := T.1
  have t2 := T.2.1
  have h1 := h.mv (sk s z p)
  have sr := sk_r (s := s) hp
  rw [cK3, c_skip T h hp, ob]
  dsimp +instances only
  rw [h1.2.2.2.1, sp_sizeOf_4 h1.1 (by unfold iR; omega), if_pos (by omega), ob, Int.toNat_natCast, h1.2.1]
  dsimp +instances only
  rw [h1.2.2.2.2.1, wI_of (x := ((sk s z p : Nat) : Int)) (by omega) (by omega), wI_of (x := (z : Int)) (by omega) (by omega)]
  by_cases c : sk s z p < z
  · rw [if_pos (by omega), if_pos c]
  · rw [if_neg (by omega), if_neg c]
theorem c_k2 {t z : Nat} {s : Nat → Int} {p n : Nat} {C : am_M} (T : TX t z s) (h : CR t z s p n C) (hp : p ≤ z) : (FG s z p 1 9 → cK2 C = cK3 (am_up (am_up C 7 6 ((p + 1 : Nat) : Int)) 7 3 (sg s z p - 48))) ∧ (¬ FG s z p 1 9 → cK2 C = some (0, am_up C 7 3 (-1))) := by
  have f := c_fig T h hp (lo := 1) (hi := 9) (hh := 9) (by decide) (by decide) (by decide)
  have sr := sg_r T p
  refine ⟨fun g => ?_, fun g => ?_⟩
  · have g2 := g
    unfold FG at g2
    rw [cK2, f.1 g, ob]
    dsimp +instances only
    rw [up_s, wI_of (x := sg s z p - 48) (by omega) (by omega), if_neg (by omega)]
  · rw [cK2, f.2 g, ob]
    dsimp +instances only
    rw [up_s, if_pos (by decide)]
theorem c_k1 {t z : Nat} {s : Nat → Int} {p n : Nat} {C : am_M} (T : TX t z s) (h : CR t z s p n C) (hp : p ≤ z) : (FG s z p 1 9 → cK1 C = cK2 (am_up (am_up C 7 6 ((p + 1 : Nat) : Int)) 7 2 (sg s z p - 48))) ∧ (¬ FG s z p 1 9 → cK1 C = some (0, am_up C 7 2 (-1))) := by
  have f := c_fig T h hp (lo := 1) (hi := 9) (hh := 9) (by decide) (by decide) (by decide)
  have sr := sg_r T p
  refine ⟨fun g => ?_, fun g => ?_⟩
  · have g2 := g
    unfold FG at g2
    rw [cK1, f.1 g, ob]
    dsimp +instances only
    rw [up_s, wI_of (x := sg s z p - 48) (by omega) (by omega), if_neg (by omega)]
  · rw [cK1, f.2 g, ob]
    dsimp +instances only
    rw [up_s, if_pos (by decide)]
theorem c_k0 {t z : Nat} {s : Nat → Int} {p n : Nat} {C : am_M} (T : TX t z s) (h : CR t z s p n C) (hp : p < z) (hn : n ≤ 12) {hh : Int} (e : hh = if (n : Int) < 9 then (n : Int) else 9) : (FG s z (p + 1) 0 hh → X_X5_readEnd_7 C = cK1 (am_up (am_up (am_up C 7 6 ((p + 1 : Nat) : Int)) 7 6 ((p + 1 + 1 : Nat) : Int)) 7 1 (sg s z (p + 1) - 48))) ∧ (¬ FG s z (p + 1) 0 hh → X_X5_readEnd_7 C = some (0, am_up (am_up C 7 6 ((p + 1 : Nat) : Int)) 7 1 (-1))) := by
  have h1 := h.mv (p + 1)
  have f := c_fig T h1 (by omega) (lo := 0) (hi := (n : Int)) (hh := hh) (by decide) (by omega) e
  have sr := sg_r T (p + 1)
  rw [c_end, h.2.2.2.2.1, show (p : Int) + 1 = ((p + 1 : Nat) : Int) by omega, h1.2.2.2.2.2.1]
  refine ⟨fun g => ?_, fun g => ?_⟩
  · have g2 := g
    unfold FG at g2
    rw [f.1 g, ob]
    dsimp +instances only
    rw [up_s, wI_of (x := sg s z (p + 1) - 48) (by omega) (by omega), if_neg (by omega)]
  · rw [f.2 g, ob]
    dsimp +instances only
    rw [up_s, if_pos (by decide)]
theorem c_out {t z : Nat} {s : Nat → Int} {p n : Nat} {C C' : am_M} (e : X_X5_readEnd_7 C = some (0, C')) (h : CR t z s p n C') : XB_X5_read_7_4 C = some ((p : Int), C') := by
  rw [XB_X5_read_7_4, e, ob]
  dsimp +instances only
  rw [if_pos wI_0, h.2.2.2.2.1]
theorem m_out {t z : Nat} {s : Nat → Int} {p n q n2 : Nat} {D D' : am_M} (T : TX t z s) (h0 : MR t z s p n D) (hp : p < z) (e : X_X9_readsEnd_53 D = some (0, D')) (h : MR t z s q n2 D') : XB_X9_faultOf_53_6 1 D = some ((q : Int), D') := by
  have t2 := T.2.1
  rw [XB_X9_faultOf_53_6, if_neg (by decide), h0.2.2.1, h0.2.2.2.1, wI_of (x := (p : Int)) (by omega) (by omega), wI_of (x := (z : Int)) (by omega) (by omega), if_pos (by omega), e, ob]
  dsimp +instances only
  rw [if_pos wI_0, h.2.2.1]
theorem sim_end {t z : Nat} {s : Nat → Int} {q n : Nat} {C D : am_M} (T : TX t z s) (hC : CR t z s q n C) (hD : MR t z s q n D) (hq : q < z) (hn : 2 ≤ n ∧ n ≤ 12) (hE : ∀ j, j < n → D 62 (2 * j) = C 9 j ∧ D 62 (2 * j + 1) = C 10 j) : ∃ v C' D', XB_X5_read_7_4 C = some (v, C') ∧ XB_X9_faultOf_53_6 1 D = some (v, D') ∧ OUT C D v C' D' := by
  have t2 := T.2.1
  obtain ⟨hh, ehh⟩ : ∃ hh : Int, hh = if (n : Int) < 9 then (n : Int) else 9 := ⟨_, rfl⟩
  have ehn : hh ≤ n ∧ hh ≤ 9 := by
    by_cases c : (n : Int) < 9
    · rw [if_pos c] at ehh; omega
    · rw [if_neg c] at ehh; omega
  have m0 : X_X9_readsEnd_53 D = XL_X9_readsEnd_53_3 XB_X9_readsEnd_53_13 (999 + 1) 0 (am_up D 53 14 ((q + 1 : Nat) : Int)) := by
    rw [X_X9_readsEnd_53, XB_X9_readsEnd_53_e, hD.2.2.2.2, wI_of (x := (n : Int)) (by omega) (by omega), if_neg (by omega), hD.2.2.1, show (q : Int) + 1 = ((q + 1 : Nat) : Int) by omega]
  have hD1 := hD.mv (q + 1)
  have hC1 := hC.mv (q + 1)
  have k0 := c_k0 T hC hq hn.2 ehh
  have j0 := m_e0 XB_X9_readsEnd_53_13 T hD1 (by omega) hn.2 999 ehh
  by_cases g0 : FG s z (q + 1) 0 hh
  · have q1 : q + 1 < z := sg_lt (s := s) (by unfold FG at g0; omega)
    have hC2 := ((hC1.mv (q + 1 + 1)).u7 1 (sg s z (q + 1) - 48) (by decide) (by decide))
    have hD2 := (hD1.mv (q + 1 + 1)).u (a := 63) (j := 0) (x := sg s z (q + 1) - 48) (Or.inr rfl)
    have k1 := c_k1 T hC2 (by omega)
    have j1 := m_e1 XB_X9_readsEnd_53_13 T hD2 (by omega) 998 (v := 1) (Or.inl rfl)
    by_cases g1 : FG s z (q + 1 + 1) 1 9
    · have q2 : q + 1 + 1 < z := sg_lt (s := s) (by unfold FG at g1; omega)
      have hC3 := ((hC2.mv (q + 1 + 1 + 1)).u7 2 (sg s z (q + 1 + 1) - 48) (by decide) (by decide))
      have hD3 := (hD2.mv (q + 1 + 1 + 1)).u (a := 63) (j := 1) (x := sg s z (q + 1 + 1) - 48) (Or.inr rfl)
      have k2 := c_k2 T hC3 (by omega)
      have j2 := m_e1 XB_X9_readsEnd_53_13 T hD3 (by omega) 997 (v := 2) (Or.inr rfl)
      by_cases g2 : FG s z (q + 1 + 1 + 1) 1 9
      · have q3 : q + 1 + 1 + 1 < z := sg_lt (s := s) (by unfold FG at g2; omega)
        have hC4 := ((hC3.mv (q + 1 + 1 + 1 + 1)).u7 3 (sg s z (q + 1 + 1 + 1) - 48) (by decide) (by decide))
        have hD4 := (hD3.mv (q + 1 + 1 + 1 + 1)).u (a := 63) (j := 2) (x := sg s z (q + 1 + 1 + 1) - 48) (Or.inr rfl)
        have k3 := c_k3 T hC4 (by omega)
        have sr := sk_r (s := s) (z := z) (p := q + 1 + 1 + 1 + 1) (by omega)
        obtain ⟨r, hr⟩ : ∃ r, r = sk s z (q + 1 + 1 + 1 + 1) := ⟨_, rfl⟩
        have hC5 := hC4.mv r
        have hD5 := hD4.mv r
        have cE := (k0.1 g0).trans ((k1.1 g1).trans ((k2.1 g2).trans k3))
        rw [← hr] at cE sr
        have mS := m_skip T hD4 (by omega)
        rw [← hr] at mS
        have mE := (m0.trans (j0.1 g0)).trans ((j1.1 g1).trans (j2.1 g2))
        rw [show (997 : Nat) = 996 + 1 from rfl, XL_X9_readsEnd_53_3, XB_X9_readsEnd_53_3, if_neg (by decide), XB_X9_readsEnd_53_13, mS, ob] at mE
        dsimp +instances only at mE
        rw [hD5.2.2.1, hD5.2.2.2.1, wI_of (x := (r : Int)) (by omega) (by omega), wI_of (x := (z : Int)) (by omega) (by omega)] at mE
        have fc : FC C (am_up (am_up (am_up (am_up (am_up (am_up (am_up (am_up C 7 6 ((q + 1 : Nat) : Int)) 7 6 ((q + 1 + 1 : Nat) : Int)) 7 1 (sg s z (q + 1) - 48)) 7 6 ((q + 1 + 1 + 1 : Nat) : Int)) 7 2 (sg s z (q + 1 + 1) - 48)) 7 6 ((q + 1 + 1 + 1 + 1 : Nat) : Int)) 7 3 (sg s z (q + 1 + 1 + 1) - 48)) 7 6 (r : Int)) := fun a h1 h2 h3 h4 => by
          rw [up_a h1, up_a h1, up_a h1, up_a h1, up_a h1, up_a h1, up_a h1, up_a h1]
        have fd : FD D (am_up (am_up (am_up (am_up (am_up (am_up (am_up (am_up D 53 14 ((q + 1 : Nat) : Int)) 53 14 ((q + 1 + 1 : Nat) : Int)) 63 0 (sg s z (q + 1) - 48)) 53 14 ((q + 1 + 1 + 1 : Nat) : Int)) 63 1 (sg s z (q + 1 + 1) - 48)) 53 14 ((q + 1 + 1 + 1 + 1 : Nat) : Int)) 63 2 (sg s z (q + 1 + 1 + 1) - 48)) 53 14 (r : Int)) := (((((((FD.u53 (by decide)).tr (FD.u53 (by decide))).tr (FD.u (Or.inr rfl))).tr (FD.u53 (by decide))).tr (FD.u (Or.inr rfl))).tr (FD.u53 (by decide))).tr (FD.u (Or.inr rfl))).tr (FD.u53 (by decide))
        by_cases c : r < z
        · rw [if_pos c] at cE
          rw [if_neg (by omega)] at mE
          exact ⟨_, _, _, c_out cE hC5, m_out T hD hq mE hD5, OUT.f fc fd ⟨hC5.2.2.2.2.2.2.1, hC5.2.2.2.2.2.2.2⟩ (by omega)⟩
        · rw [if_neg c] at cE
          rw [if_pos (by omega)] at mE
          refine ⟨-9, _, _, ?_, ?_, fc, fd, ⟨hC5.2.2.2.2.2.2.1, hC5.2.2.2.2.2.2.2⟩, by decide, fun _ => ⟨n, hn, hC5.2.2.2.2.2.1, hD5.2.2.2.2, fun j hj => ?_, ⟨?_, ?_, ?_⟩, ?_, ?_, ?_⟩⟩
          · rw [XB_X5_read_7_4, cE, ob]
            dsimp +instances only
            rw [if_neg (by decide)]
          · rw [XB_X9_faultOf_53_6, if_neg (by decide), hD.2.2.1, hD.2.2.2.1, wI_of (x := (q : Int)) (by omega) (by omega), wI_of (x := (z : Int)) (by omega) (by omega), if_pos (by omega), mE, ob]
            dsimp +instances only
            rw [if_neg (by decide)]
          · exact hE j hj
          · rfl
          · rfl
          · rfl
          · show 0 ≤ sg s z (q + 1) - 48 ∧ sg s z (q + 1) - 48 ≤ (n : Int)
            unfold FG at g0; omega
          · show 0 ≤ sg s z (q + 1 + 1) - 48 ∧ sg s z (q + 1 + 1) - 48 ≤ 9
            unfold FG at g1; omega
          · show 0 ≤ sg s z (q + 1 + 1 + 1) - 48 ∧ sg s z (q + 1 + 1 + 1) - 48 ≤ 9
            unfold FG at g2; omega
      · have hC5 := hC3.u7 3 (-1) (by decide) (by decide)
        have hD5 := hD3.u (a := 63) (j := 2) (x := -9) (Or.inr rfl)
        have cE := (k0.1 g0).trans ((k1.1 g1).trans (k2.2 g2))
        have mE := (m0.trans (j0.1 g0)).trans ((j1.1 g1).trans (j2.2 g2))
        refine ⟨_, _, _, c_out cE hC5, m_out T hD hq mE hD5, OUT.f (fun a h1 h2 h3 h4 => ?_) ?_ ⟨hC5.2.2.2.2.2.2.1, hC5.2.2.2.2.2.2.2⟩ (by omega)⟩
        · rw [up_a h1, up_a h1, up_a h1, up_a h1, up_a h1, up_a h1]
        · exact (((((FD.u53 (by decide)).tr (FD.u53 (by decide))).tr (FD.u (Or.inr rfl))).tr (FD.u53 (by decide))).tr (FD.u (Or.inr rfl))).tr (FD.u (Or.inr rfl))
    · have hC5 := hC2.u7 2 (-1) (by decide) (by decide)
      have hD5 := hD2.u (a := 63) (j := 1) (x := -9) (Or.inr rfl)
      have cE := (k0.1 g0).trans (k1.2 g1)
      have mE := (m0.trans (j0.1 g0)).trans (j1.2 g1)
      refine ⟨_, _, _, c_out cE hC5, m_out T hD hq mE hD5, OUT.f (fun a h1 h2 h3 h4 => ?_) ?_ ⟨hC5.2.2.2.2.2.2.1, hC5.2.2.2.2.2.2.2⟩ (by omega)⟩
      · rw [up_a h1, up_a h1, up_a h1, up_a h1]
      · exact (((FD.u53 (by decide)).tr (FD.u53 (by decide))).tr (FD.u (Or.inr rfl))).tr (FD.u (Or.inr rfl))
  · have hC5 := hC1.u7 1 (-1) (by decide) (by decide)
    have hD5 := hD1.u (a := 63) (j := 0) (x := -9) (Or.inr rfl)
    have cE := k0.2 g0
    have mE := m0.trans (j0.2 g0)
    refine ⟨_, _, _, c_out cE hC5, m_out T hD hq mE hD5, OUT.f (fun a h1 h2 h3 h4 => ?_) ?_ ⟨hC5.2.2.2.2.2.2.1, hC5.2.2.2.2.2.2.2⟩ (by omega)⟩
    · rw [up_a h1, up_a h1]
    · exact (FD.u53 (by decide)).tr (FD.u (Or.inr rfl))
end
section
/-! the whole reading, side by side -/
theorem lp_read {t z : Nat} {s : Nat → Int} (T : TX t z s) : ∀ (e n1 n2 n p : Nat) (C D : am_M), n + e = 13 → n ≤ 12 → e ≤ n1 → e < n2 → p ≤ z → CR t z s p n C → MR t z s (sk s z p) n D → (∀ j, j < n → D 62 (2 * j) = C 9 j ∧ D 62 (2 * j + 1) = C 10 j) → ∃ v C' D', XL_X5_read_7_1 XB_X5_read_7_4 XB_X5_read_7_11 n1 n C = some (v, C') ∧ XL_X9_faultOf_53_1 XB_X9_faultOf_53_6 n2 1 D = some (v, D') ∧ OUT C D v C' D' := by
  intro e
  have t2 := T.2.1
  induction e with
  | zero => intro n1 n2 n p C D h1 h2; omega
  | succ e ih =>
    intro n1 n2 n p C D hn hn2 h1 h2 hp hC hD hE
    obtain ⟨n1, rfl⟩ : ∃ m, n1 = m + 1 := ⟨n1 - 1, by omega⟩
    obtain ⟨n2, rfl⟩ : ∃ m, n2 = m + 1 := ⟨n2 - 1, by omega⟩
    have skr := sk_r (s := s) hp
    have sC := c_skip T hC hp
    obtain ⟨q, hq⟩ : ∃ q, q = sk s z p := ⟨_, rfl⟩
    rw [← hq] at skr sC hD
    have hC1 := hC.mv q
    obtain ⟨C1, eC1⟩ : ∃ C1, C1 = am_up C 7 6 (q : Int) := ⟨_, rfl⟩
    rw [← eC1] at sC hC1
    have fC1 : FC C C1 := by rw [eC1]; exact FC.up (Or.inl rfl)
    have e9 : C1 9 = C 9 := by rw [eC1]; exact up_a (by decide)
    have e10 : C1 10 = C 10 := by rw [eC1]; exact up_a (by decide)
    have hE1 : ∀ j, j < n → D 62 (2 * j) = C1 9 j ∧ D 62 (2 * j + 1) = C1 10 j := by rw [e9, e10]; exact hE
    have sr := sg_r T q
    have c0 : XL_X5_read_7_1 XB_X5_read_7_4 XB_X5_read_7_11 (n1 + 1) n C = if sg s z q = 98 then if n < 2 then (X_X5_readStrip_7 C1).bind fun z3 => if wI z3.1 = 0 then some (z3.2 7 6, z3.2) else XL_X5_read_7_1 XB_X5_read_7_4 XB_X5_read_7_11 n1 ((n + 1 : Nat) : Int) z3.2 else XB_X5_read_7_4 C1 else (X_X5_readStrip_7 C1).bind fun z3 => if wI z3.1 = 0 then some (z3.2 7 6, z3.2) else XL_X5_read_7_1 XB_X5_read_7_4 XB_X5_read_7_11 n1 ((n + 1 : Nat) : Int) z3.2 := by
      rw [XL_X5_read_7_1, XB_X5_read_7_1, wI_of (x := (n : Int)) (by omega) (by omega), if_neg (by omega), sC, ob]
      dsimp +instances only
      rw [c_sign T hC1 (by omega), ob]
      dsimp +instances only
      rw [wI_of (x := sg s z q) (by omega) (by omega), hC1.2.2.2.2.2.1, wI_of (x := (n : Int)) (by omega) (by omega), show (n : Int) + 1 = ((n + 1 : Nat) : Int) by omega]
      by_cases c2 : n < 2
      · rw [if_pos c2, if_pos (show (n : Int) < 2 by omega)]
      · rw [if_neg c2, if_neg (show ¬ (n : Int) < 2 by omega)]
    have bC1 : (∀ i, 0 ≤ C1 9 i ∧ C1 9 i ≤ 5) ∧ ∀ i, 0 ≤ C1 10 i ∧ C1 10 i ≤ 9 := ⟨hC1.2.2.2.2.2.2.1, hC1.2.2.2.2.2.2.2⟩
    have bad : (sK s z q = -1 ∨ n = 12) → ((X_X5_readStrip_7 C1).bind fun z3 => if wI z3.1 = 0 then some (z3.2 7 6, z3.2) else XL_X5_read_7_1 XB_X5_read_7_4 XB_X5_read_7_11 n1 ((n + 1 : Nat) : Int) z3.2) = some ((q : Int), C1) := fun hb => by
      rw [c_strip0 T hC1 (by omega) hn2 hb, ob]
      dsimp +instances only
      rw [if_pos wI_0, hC1.2.2.2.2.1]
    have mq : D 53 14 = (q : Int) := hD.2.2.1
    by_cases cz : q < z
    · have hsg : sg s z q = s q := sg_in cz
      have m0 : XL_X9_faultOf_53_1 XB_X9_faultOf_53_6 (n2 + 1) 1 D = if s q = 98 then XB_X9_faultOf_53_6 1 D else (X_X9_readsStrip_53 D).bind fun z2 => if wI z2.1 = 0 then XL_X9_faultOf_53_1 XB_X9_faultOf_53_6 n2 z2.1 z2.2 else (X_X9_skip_53 z2.2).bind fun z3 => XL_X9_faultOf_53_1 XB_X9_faultOf_53_6 n2 z2.1 z3.2 := by
        rw [XL_X9_faultOf_53_1, XB_X9_faultOf_53_1, if_neg (by decide), mq, hD.2.2.2.1, wI_of (x := (q : Int)) (by omega) (by omega), wI_of (x := (z : Int)) (by omega) (by omega), if_pos (by omega), m_here T hD cz, ob]
        dsimp +instances only
        rw [wI_of (x := s q) (by omega) (by omega)]
      have stop : ∀ N : am_M, XL_X9_faultOf_53_1 XB_X9_faultOf_53_6 n2 0 N = some (N 53 14, N) := fun N => by
        obtain ⟨n3, rfl⟩ : ∃ m, n2 = m + 1 := ⟨n2 - 1, by omega⟩
        rw [XL_X9_faultOf_53_1, XB_X9_faultOf_53_1, if_pos wI_0, XB_X9_faultOf_53_6, if_pos wI_0]
      by_cases cb : s q = 98
      · have kb : sK s z q = -1 := by unfold sK; rw [hsg, cb]; rfl
        rw [if_pos (by rw [hsg]; exact cb)] at c0
        rw [if_pos cb] at m0
        by_cases c2 : n < 2
        · rw [if_pos c2, bad (Or.inl kb)] at c0
          refine ⟨_, _, _, c0, m0.trans (m_out T hD cz (q := q) (n2 := n) ?_ hD), OUT.f fC1 (FD.rf D) bC1 (by omega)⟩
          rw [X_X9_readsEnd_53, XB_X9_readsEnd_53_e, hD.2.2.2.2, wI_of (x := (n : Int)) (by omega) (by omega), if_pos (by omega)]
        · rw [if_neg c2] at c0
          obtain ⟨v, C', D', a1, a2, a3⟩ := sim_end T hC1 hD cz (by omega) hE1
          exact ⟨v, C', D', c0.trans a1, m0.trans a2, OUT.tr fC1 (FD.rf D) a3⟩
      · rw [if_neg (by rw [hsg]; exact cb)] at c0
        rw [if_neg cb] at m0
        by_cases ck : sK s z q = -1 ∨ n = 12
        · rw [bad ck] at c0
          rw [m_strip0 T hD cz hn2 ck, ob] at m0
          dsimp +instances only at m0
          rw [if_pos wI_0, stop, mq] at m0
          exact ⟨_, _, _, c0, m0, OUT.f fC1 (FD.rf D) bC1 (by omega)⟩
        · have ck1 : sK s z q ≠ -1 := fun h => ck (Or.inl h)
          have cn : n < 12 := by
            have : n ≠ 12 := fun h => ck (Or.inr h)
            omega
          have kr := kdc_r (sg s z q)
          have sC1 := c_strip1 T hC1 (by omega) cn ck1
          have sD1 := m_strip1 T hD cz cn ck1
          by_cases g : FG s z (q + 1) 0 9
          · have g2 := g
            unfold FG at g2
            have hz2 : q + 1 < z := sg_lt (s := s) (by omega)
            have hk : 0 ≤ sK s z q ∧ sK s z q ≤ 5 := by unfold sK at ck1 ⊢; omega
            have hC2 : CR t z s (q + 2) (n + 1) (cAdd C1 q n (sK s z q) (sg s z (q + 1) - 48)) := (hC1.mv (q + 2)).add hk (by omega)
            have hD2 : MR t z s (q + 2) (n + 1) (mAdd D q n (sK s z q) (sg s z (q + 1) - 48)) := (((hD.mv (q + 2)).u (Or.inl rfl)).u (Or.inl rfl)).n (n + 1)
            have hS := m_skip T hD2 (by omega)
            have hD3 := hD2.mv (sk s z (q + 2))
            rw [sC1.2.1 g, ob] at c0
            dsimp +instances only at c0
            rw [if_neg (by decide)] at c0
            rw [sD1.1 g, ob] at m0
            dsimp +instances only at m0
            rw [if_neg (by decide), hS, ob] at m0
            obtain ⟨v, C', D', a1, a2, a3⟩ := ih n1 n2 (n + 1) (q + 2) _ _ (by omega) (by omega) (by omega) (by omega) (by omega) hC2 hD3 (fun j hj => by
              rw [up_a (a' := 62) (by decide)]
              unfold cAdd mAdd
              rw [up_a (a' := 62) (a := 53) (by decide), up_a (a' := 9) (a := 8) (by decide), up_a (a' := 9) (a := 10) (by decide), up_a (a' := 10) (a := 8) (by decide)]
              by_cases c : j = n
              · subst c
                rw [up_s, up_j (by omega), up_s, up_s, up_s]
                exact ⟨rfl, rfl⟩
              · rw [up_j (by omega), up_j (by omega), up_j (by omega), up_j (by omega), up_j (by omega), up_j (by omega), up_a (a' := 10) (a := 9) (by decide), up_a (a' := 62) (a := 53) (by decide), up_a (a' := 9) (a := 7) (by decide), up_a (a' := 10) (a := 7) (by decide)]
                exact hE1 j (by omega))
            refine ⟨v, C', D', c0.trans a1, m0.trans a2, OUT.tr (fC1.tr ?_) ?_ a3⟩
            · unfold cAdd
              exact (((FC.up (Or.inl rfl)).tr (FC.up (Or.inr (Or.inr (Or.inl rfl))))).tr (FC.up (Or.inr (Or.inr (Or.inr rfl))))).tr (FC.up (Or.inr (Or.inl rfl)))
            · unfold mAdd
              exact ((((FD.u53 (by decide)).tr (FD.u (Or.inl rfl))).tr (FD.u (Or.inl rfl))).tr (FD.u53 (by decide))).tr (FD.u53 (by decide))
          · have hC2 := hC1.mv (q + 1)
            have hD2 := hD.mv (q + 1)
            rw [sC1.2.2 g, ob] at c0
            dsimp +instances only at c0
            rw [if_pos wI_0, hC2.2.2.2.2.1] at c0
            rw [sD1.2 g, ob] at m0
            dsimp +instances only at m0
            rw [if_pos wI_0, stop, hD2.2.2.1] at m0
            exact ⟨_, _, _, c0, m0, OUT.f (fC1.tr (FC.up (Or.inl rfl))) (FD.u53 (by decide)) ⟨hC2.2.2.2.2.2.2.1, hC2.2.2.2.2.2.2.2⟩ (by omega)⟩
    · have sz : sg s z q = 0 := sg_z (by omega)
      rw [if_neg (by rw [sz]; decide), bad (Or.inl (by unfold sK; rw [sz]; rfl))] at c0
      refine ⟨_, _, D, c0, ?_, OUT.f fC1 (FD.rf D) bC1 (by omega)⟩
      rw [XL_X9_faultOf_53_1, XB_X9_faultOf_53_1, if_neg (by decide), mq, hD.2.2.2.1, wI_of (x := (q : Int)) (by omega) (by omega), wI_of (x := (z : Int)) (by omega) (by omega), if_neg (by omega), XB_X9_faultOf_53_6, if_neg (by decide), mq, hD.2.2.2.1, wI_of (x := (q : Int)) (by omega) (by omega), wI_of (x := (z : Int)) (by omega) (by omega), if_neg (by omega)]
/-- reading text t: the class at M, the model at any N whose texts are M's -/
theorem sim_read {M N : am_M} (I : Ib M) {t : Nat} (ht : t < 4) (h0 : 0 ≤ M 5 t) (hN : N 59 = M 59 ∧ N 60 = M 60) : ∃ v C' D', X_X5_read_7 t M = some (v, C') ∧ X_X9_faultOf_53 t N = some (v, D') ∧ OUT M N v C' D' := by
  have hb := I.2.2.1.2.1 t
  obtain ⟨z, hz⟩ := Int.eq_ofNat_of_zero_le h0
  have T : TX t z (fun j => M 6 (60 * t + j)) := ⟨ht, by omega, fun j => I.2.2.1.2.2.1 _⟩
  have hC : CR t z (fun j => M 6 (60 * t + j)) 0 0 (am_up (am_up (am_up M 7 5 (t : Int)) 7 6 0) 8 0 0) := by
    unfold CR Sh4
    have sh := I.sh4
    unfold Sh4 at sh
    refine ⟨sh, hz, fun j _ => rfl, rfl, rfl, rfl, I.2.2.2.1.2.2.2.2.2.2.2.2.1, I.2.2.2.1.2.2.2.2.2.2.2.2.2⟩
  have e5 : N 59 t = (z : Int) := by rw [hN.1, I.2.2.1.1]; exact hz
  have hD : MR t z (fun j => M 6 (60 * t + j)) 0 0 (am_up (am_up (am_up (am_up N 53 13 (60 * (t : Int))) 53 14 0) 53 15 (z : Int)) 53 17 0) := by
    unfold MR
    refine ⟨fun j hj => ?_, ?_, rfl, rfl, rfl⟩
    · show N 60 (60 * t + j) = M 6 (60 * t + j)
      rw [hN.2]
      exact I.2.2.1.2.2.2 t j ht (by omega)
    · show 60 * (t : Int) = ((60 * t : Nat) : Int)
      omega
  have mS := m_skip T hD (Nat.zero_le _)
  obtain ⟨v, C', D', a1, a2, a3⟩ := lp_read T 13 1000 1000 0 0 _ _ (by omega) (by omega) (by omega) (by omega) (Nat.zero_le _) hC (hD.mv _) (fun j hj => by omega)
  refine ⟨v, C', D', ?_, ?_, OUT.tr ?_ ?_ a3⟩
  · rw [X_X5_read_7, XB_X5_read_7_e, X_X2_clear_8, ob]
    exact a1
  · rw [X_X9_faultOf_53, XB_X9_faultOf_53_e, wI_of (x := (t : Int)) (by omega) (by omega), if_pos (by omega), Int.toNat_natCast, up_a (a' := 59) (by decide), up_a (a' := 59) (by decide), e5, mS, ob]
    exact a2
  · exact ((FC.up (Or.inl rfl)).tr (FC.up (Or.inl rfl))).tr (FC.up (Or.inr (Or.inl rfl)))
  · exact ((((FD.u53 (by decide)).tr (FD.u53 (by decide))).tr (FD.u53 (by decide))).tr (FD.u53 (by decide))).tr (FD.u53 (by decide))
/-- both, one after the other -/
theorem sim_two {M : am_M} (I : Ib M) {t : Nat} (ht : t < 4) (h0 : 0 ≤ M 5 t) : ∃ v C' D', X_X5_read_7 t M = some (v, C') ∧ X_X9_faultOf_53 t C' = some (v, D') ∧ OUT M C' v C' D' := by
  obtain ⟨v, C', D', a1, a2, a3⟩ := sim_read I (N := M) ht h0 ⟨rfl, rfl⟩
  obtain ⟨v2, C2, D2, b1, b2', b3⟩ := sim_read I (N := C') ht h0 ⟨a3.1 59 (by decide) (by decide) (by decide) (by decide), a3.1 60 (by decide) (by decide) (by decide) (by decide)⟩
  rw [a1] at b1
  obtain ⟨rfl, rfl⟩ : v = v2 ∧ C' = C2 := by
    injection b1 with b1
    injection b1 with e1 e2
    exact ⟨e1, e2⟩
  exact ⟨v, C', D2, a1, b2', b3⟩
theorem inv_910 {M : am_M} (I : Inv M) {f g : Nat → Int} (h9 : ∀ i, 0 ≤ f i ∧ f i ≤ 5) (h10 : ∀ i, 0 ≤ g i ∧ g i ≤ 9) : Inv (am_row (am_row M 9 f) 10 g) := by
  have G := I.2.2.2.1
  exact ⟨I.1, I.2.1, I.2.2.1, ⟨G.1, G.2.1, G.2.2.1, G.2.2.2.1, G.2.2.2.2.1, G.2.2.2.2.2.1, G.2.2.2.2.2.2.1, G.2.2.2.2.2.2.2.1, h9, h10⟩, I.2.2.2.2⟩
theorem OUT.k {M C' D' : am_M} {v : Int} (o : OUT M C' v C' D') : Kp (am_row (am_row M 9 (C' 9)) 10 (C' 10)) D' := by
  obtain ⟨o1, o2, -, -, -⟩ := o
  refine ⟨fun a ha => ?_, fun j hj => ?_, fun j hj => ?_⟩
  · rw [o2.1 a (by omega) (by omega) (by omega)]
    by_cases c9 : a = 9
    · subst c9; rw [row_a (by decide), row_s]
    · by_cases c10 : a = 10
      · subst c10; rw [row_s]
      · rw [row_a c10, row_a c9, o1 a (by omega) (by omega) c9 c10]
  · rw [o2.2 j hj, o1 53 (by decide) (by decide) (by decide) (by decide)]; rfl
  · rw [o2.1 54 (by decide) (by decide) (by decide), o1 54 (by decide) (by decide) (by decide) (by decide)]; rfl
theorem eq_fault {M : am_M} (I : Inv M) {t : Int} (ht : iR t) : Step (X_X8_fault_0 t) (X_X9_fault_53 t) M := gd_fault I ht fun h1 h2 => by
  obtain ⟨t, rfl⟩ := Int.eq_ofNat_of_zero_le h1.1
  rw [Int.toNat_natCast] at h2
  have hb := I.2.2.1.2.1 t
  obtain ⟨v, C', D', a1, a2, a3⟩ := sim_two I.b (t := t) (by omega) h2
  refine ⟨v, v, C', D', ?_, ?_, rfl, Kp.inv (inv_910 I a3.2.2.1.1 a3.2.2.1.2) a3.k⟩
  · rw [X_X8_fault_0, sp_isNumber_4 I.sh4 ht, b2_t h1, ob]
    dsimp +instances only
    rw [if_neg (by decide), sp_isThere_4 I.sh4 h1, Int.toNat_natCast, b2_t h2, ob]
    dsimp +instances only
    rw [if_neg (by decide), a1, ob]
  · have e59 : C' 59 t = M 5 t := by rw [a3.1 59 (by decide) (by decide) (by decide) (by decide), I.2.2.1.1]
    rw [X_X9_fault_53, sp_isText _ ht, b2_t h1, ob]
    dsimp +instances only
    rw [if_neg (by decide), wI_of (x := (t : Int)) (by omega) (by omega), if_pos (by omega), Int.toNat_natCast, e59, wI_of (x := M 5 t) (by omega) (by omega), if_neg (by omega), a2, ob]
end
section
/-! A land begun: both sides. -/
theorem inv_land {M N : am_M} (I : Inv M) {m : Nat} {b r0 r1 : Int} (hk : ∀ a, (a ≤ 6 ∨ a = 15 ∨ a = 16 ∨ (18 ≤ a ∧ a ≤ 34) ∨ a = 52 ∨ (57 ≤ a ∧ a ≤ 61)) → N a = M a) (h53 : ∀ j, (8 ≤ j ∧ j ≤ 11) → N 53 j = M 53 j) (hm : 2 ≤ m ∧ m ≤ 12) (h11 : N 11 0 = m) (h531 : N 53 1 = m) (b9 : ∀ i, 0 ≤ N 9 i ∧ N 9 i ≤ 5) (b10 : ∀ i, 0 ≤ N 10 i ∧ N 10 i ≤ 9) (b12 : ∀ i, 0 ≤ N 12 i ∧ N 12 i ≤ 5) (b13 : ∀ i, 0 ≤ N 13 i ∧ N 13 i ≤ 9) (b55 : ∀ i, 0 ≤ N 55 i ∧ N 55 i ≤ 5) (b56 : ∀ i, 0 ≤ N 56 i ∧ N 56 i ≤ 9) (he : ∀ i : Nat, i < m → N 55 i = N 12 i ∧ N 56 i = N 13 i) (o0 : N 14 0 = 0) (o1 : N 14 1 = b) (o2 : N 14 2 = r0) (o3 : N 14 3 = r1) (hb : 0 ≤ b ∧ b ≤ m) (hr0 : 0 ≤ r0 ∧ r0 ≤ 9) (hr1 : 0 ≤ r1 ∧ r1 ≤ 9) (h17 : N 17 0 = b) (b17 : ∀ i, 0 ≤ N 17 i ∧ N 17 i ≤ 12) (h35 : N 35 0 = -1 ∧ N 35 1 = -1 ∧ N 35 2 = -1) (l0 : N 54 0 = 0) (l1 : N 54 1 = b) (l2 : N 54 2 = r0) (l3 : N 54 3 = r1) (lz : ∀ j, 4 ≤ j → j < 120 → N 54 j = 0) (l120 : N 54 120 = b) (lk : N 54 121 = -1 ∧ N 54 242 = -1 ∧ N 54 363 = -1) : Inv N := by
  obtain ⟨i1, i2, i3, i4, i5, ⟨k1, k2, k3⟩, i7⟩ := I
  unfold Inv
  rw [hk 1 (by decide), hk 2 (by decide), hk 3 (by decide), hk 4 (by decide), hk 5 (by decide), hk 6 (by decide), hk 57 (by decide), hk 58 (by decide), hk 59 (by decide), hk 60 (by decide), hk 15 (by decide), hk 16 (by decide), hk 18 (by decide), hk 20 (by decide), hk 21 (by decide), hk 22 (by decide), hk 23 (by decide), hk 24 (by decide), hk 25 (by decide), hk 26 (by decide), hk 27 (by decide), hk 28 (by decide), hk 29 (by decide), hk 30 (by decide), hk 31 (by decide), hk 32 (by decide), hk 33 (by decide), hk 34 (by decide), hk 0 (by decide), hk 52 (by decide), hk 61 (by decide), h11, h531]
  refine ⟨i1, i2, i3, ⟨rfl, by omega, by omega, b12, b13, b55, b56, fun i hi => he i (by omega), b9, b10⟩, ⟨⟨by rw [l0, o0], by rw [o0]; omega, by rw [o1]; exact l1, by rw [o1]; exact hb, by rw [o2]; exact l2, by rw [o3]; exact l3, by rw [o2]; exact hr0, by rw [o3]; exact hr1, fun _ => o0⟩, ⟨i5.2.1.1, fun j hj => by rw [o0] at hj; omega⟩, ⟨?_, ?_, b17, ?_, ?_⟩, ⟨i5.2.2.2.1.1, fun t i h1 _ => by rw [o0] at h1; omega⟩, ?_⟩, ⟨⟨?_, ?_, ?_, ?_, k1.2.2.2.2⟩, ⟨?_, ?_, ?_, ?_, k2.2.2.2.2⟩, ⟨?_, ?_, ?_, ?_, k3.2.2.2.2⟩⟩, ?_⟩
  · rw [h17]; exact l120.symm
  · rw [o0, o1]; exact h17
  · intro j hj
    rw [o0] at hj
    have : j = 0 := by omega
    rw [this, h17]; exact hb.2
  · intro j hj
    rw [o0] at hj; omega
  · intro i hi
    rw [o0]
    refine ⟨?_, ?_, ?_⟩
    · rw [lz _ (by omega) (by omega)]; rfl
    · rw [lz _ (by omega) (by omega)]; rfl
    · rw [lz _ (by omega) (by omega)]; rfl
  · rw [lk.1, h35.1]
  · rw [h35.1]; decide
  · rw [h35.1]; decide
  · intro h; rw [h35.1] at h; omega
  · rw [lk.2.1, h35.2.1]
  · rw [h35.2.1]; decide
  · rw [h35.2.1]; decide
  · intro h; rw [h35.2.1] at h; omega
  · rw [lk.2.2, h35.2.2]
  · rw [h35.2.2]; decide
  · rw [h35.2.2]; decide
  · intro h; rw [h35.2.2] at h; omega
  · unfold TlI at i7 ⊢
    rw [h53 11 (by decide), h53 8 (by decide), h53 9 (by decide), h53 10 (by decide)]
    exact i7
/-! the model's loops -/
theorem lp_l7 (k : am_M → am_Rs) {D : am_M} {m : Nat} (hm : m ≤ 12) (h53 : D 53 1 = m) (hb : ∀ j, j < m → (0 ≤ D 62 (2 * j) ∧ D 62 (2 * j) ≤ 5) ∧ (0 ≤ D 62 (2 * j + 1) ∧ D 62 (2 * j + 1) ≤ 9)) : ∀ (e n i : Nat) (f g : Nat → Int), i + e = m → e < n → (∀ j, j < i → f j = D 62 (2 * j) ∧ g j = D 62 (2 * j + 1)) → (∀ j, (0 ≤ f j ∧ f j ≤ 5) ∧ (0 ≤ g j ∧ g j ≤ 9)) → ∃ f' g', XL_X9_land_53_7 k n i (am_row (am_row D 55 f) 56 g) = k (am_row (am_row D 55 f') 56 g') ∧ (∀ j, j < m → f' j = D 62 (2 * j) ∧ g' j = D 62 (2 * j + 1)) ∧ (∀ j, (0 ≤ f' j ∧ f' j ≤ 5) ∧ (0 ≤ g' j ∧ g' j ≤ 9)) := by
  intro e
  induction e with
  | zero =>
    intro n i f g hi hn h1 h2
    obtain ⟨n, rfl⟩ : ∃ q, n = q + 1 := ⟨n - 1, by omega⟩
    refine ⟨f, g, ?_, fun j hj => h1 j (by omega), h2⟩
    rw [XL_X9_land_53_7, XB_X9_land_53_7, row_a (a' := 53) (by decide), row_a (a' := 53) (by decide), h53, wI_of (x := (i : Int)) (by omega) (by omega), wI_of (x := (m : Int)) (by omega) (by omega), if_neg (by omega)]
  | succ e ih =>
    intro n i f g hi hn h1 h2
    obtain ⟨n, rfl⟩ : ∃ q, n = q + 1 := ⟨n - 1, by omega⟩
    obtain ⟨f', g', a1, a2⟩ := ih n (i + 1) (fun j => if j = i then D 62 (2 * i) else f j) (fun j => if j = i then D 62 (2 * i + 1) else g j) (by omega) (by omega) (fun j hj => by
      by_cases c : j = i
      · rw [if_pos c, if_pos c, c]; exact ⟨rfl, rfl⟩
      · rw [if_neg c, if_neg c]; exact h1 j (by omega)) (fun j => by
      by_cases c : j = i
      · rw [if_pos c, if_pos c]; exact hb i (by omega)
      · rw [if_neg c, if_neg c]; exact h2 j)
    refine ⟨f', g', ?_, a2⟩
    rw [← a1, XL_X9_land_53_7, XB_X9_land_53_7, row_a (a' := 53) (by decide), row_a (a' := 53) (by decide), h53, wI_of (x := (i : Int)) (by omega) (by omega), wI_of (x := (m : Int)) (by omega) (by omega), if_pos (by omega), show 2 * (i : Int) = ((2 * i : Nat) : Int) by omega, show ((2 * i : Nat) : Int) + 1 = ((2 * i + 1 : Nat) : Int) by omega, wI_of (x := ((2 * i : Nat) : Int)) (by omega) (by omega), wI_of (x := ((2 * i + 1 : Nat) : Int)) (by omega) (by omega), if_pos (by omega), if_pos (by omega), if_pos (by omega), if_pos (by omega), Int.toNat_natCast, Int.toNat_natCast, Int.toNat_natCast, up_a (a' := 62) (by decide), row_a (a' := 62) (by decide), row_a (a' := 62) (by decide), show (i : Int) + 1 = ((i + 1 : Nat) : Int) by omega]
    congr 1
    funext a
    by_cases c5 : a = 55
    · subst c5
      rw [up_a (by decide), row_a (by decide), row_s, up_row, row_s, row_a (by decide), row_s]
    · by_cases c6 : a = 56
      · subst c6
        rw [row_s, up_row, row_s, up_a (by decide), row_s]
      · rw [up_a c6, up_a c5, row_a c6, row_a c5, row_a c6, row_a c5]
theorem lp_l10 (k : am_M → am_Rs) (D : am_M) : ∀ (e n i : Nat) (L : Nat → Int), i + e = 121 → e < n → (∀ j, j < i → L j = 0) → ∃ L', XL_X9_land_53_10 k n i (am_row D 54 L) = k (am_row D 54 L') ∧ ∀ j, j < 121 → L' j = 0 := by
  intro e
  induction e with
  | zero =>
    intro n i L hi hn h1
    obtain ⟨n, rfl⟩ : ∃ q, n = q + 1 := ⟨n - 1, by omega⟩
    refine ⟨L, ?_, fun j hj => h1 j (by omega)⟩
    rw [XL_X9_land_53_10, XB_X9_land_53_10, wI_of (x := (i : Int)) (by omega) (by omega), if_neg (by omega)]
  | succ e ih =>
    intro n i L hi hn h1
    obtain ⟨n, rfl⟩ : ∃ q, n = q + 1 := ⟨n - 1, by omega⟩
    obtain ⟨L', a1, a2⟩ := ih n (i + 1) (fun j => if j = i then 0 else L j) (by omega) (by omega) (fun j hj => by
      by_cases c : j = i
      · rw [if_pos c]
      · rw [if_neg c]; exact h1 j (by omega))
    refine ⟨L', ?_, a2⟩
    rw [← a1, XL_X9_land_53_10, XB_X9_land_53_10, wI_of (x := (i : Int)) (by omega) (by omega), if_pos (by omega), if_pos (by omega), Int.toNat_natCast, up_row, row_row, row_s, show (i : Int) + 1 = ((i + 1 : Nat) : Int) by omega]
theorem st_l13 (k : am_M → am_Rs) (D : am_M) (L : Nat → Int) (n : Nat) {v : Nat} (hv : v < 4) : XL_X9_land_53_13 k (n + 1) v (am_row D 54 L) = XL_X9_land_53_13 k n ((v + 1 : Nat) : Int) (am_row D 54 (fun j => if j = 121 * v then -1 else L j)) := by
  rw [XL_X9_land_53_13, XB_X9_land_53_13, wI_of (x := (v : Int)) (by omega) (by omega), if_pos (by omega), show 121 * (v : Int) + 0 = ((121 * v : Nat) : Int) by omega, wI_of (x := ((121 * v : Nat) : Int)) (by omega) (by omega), if_pos (by omega), Int.toNat_natCast, up_row, row_row, row_s, show (v : Int) + 1 = ((v + 1 : Nat) : Int) by omega]
theorem sp_l12 (D : am_M) (L : Nat → Int) (hL : ∀ j, j < 121 → L j = 0) : ∃ L', XB_X9_land_53_12 (XL_X9_land_53_13 XB_X9_land_53_15 1000) (am_row D 54 L) = some (D 53 1, am_row D 54 L') ∧ L' 0 = 0 ∧ L' 1 = D 63 0 ∧ L' 2 = D 63 1 ∧ L' 3 = D 63 2 ∧ (∀ j, 4 ≤ j → j < 120 → L' j = 0) ∧ L' 120 = D 63 0 ∧ L' 121 = -1 ∧ L' 242 = -1 ∧ L' 363 = -1 := by
  obtain ⟨L1, hL1⟩ : ∃ L1 : Nat → Int, L1 = fun j => if j = 3 then D 63 2 else if j = 2 then D 63 1 else if j = 120 then D 63 0 else if j = 1 then D 63 0 else L j := ⟨_, rfl⟩
  have e0 : XB_X9_land_53_12 (XL_X9_land_53_13 XB_X9_land_53_15 1000) (am_row D 54 L) = XL_X9_land_53_13 XB_X9_land_53_15 (999 + 1) ((1 : Nat) : Int) (am_row D 54 L1) := by
    have eu : am_up (am_up (am_up (am_up (am_row D 54 L) 54 1 (D 63 0)) 54 120 (D 63 0)) 54 2 (D 63 1)) 54 3 (D 63 2) = am_row D 54 L1 := by
      rw [hL1]
      funext a
      by_cases c : a = 54
      · subst c; funext j; simp [am_up, am_row]
      · rw [up_a c, up_a c, up_a c, up_a c, row_a c, row_a c]
    rw [XB_X9_land_53_12]
    simp only [up_a (show (63 : Nat) ≠ 54 by decide), row_a (show (63 : Nat) ≠ 54 by decide)]
    rw [eu]
    rfl
  refine ⟨fun j => if j = 121 * 3 then -1 else if j = 121 * 2 then -1 else if j = 121 * 1 then -1 else L1 j, ?_, ?_, ?_, ?_, ?_, ?_, ?_, ?_, ?_, ?_⟩
  · rw [e0, st_l13 _ _ _ 999 (by decide), st_l13 _ _ _ 998 (by decide), st_l13 _ _ _ 997 (by decide)]
    show XL_X9_land_53_13 XB_X9_land_53_15 (996 + 1) ((4 : Nat) : Int) _ = _
    rw [XL_X9_land_53_13, XB_X9_land_53_13, if_neg (by decide), XB_X9_land_53_15, row_a (by decide)]
  · rw [hL1]; exact hL 0 (by decide)
  · rw [hL1]; rfl
  · rw [hL1]; rfl
  · rw [hL1]; rfl
  · intro j h1 h2
    rw [hL1]
    dsimp only
    rw [if_neg (by omega), if_neg (by omega), if_neg (by omega), if_neg (by omega), if_neg (by omega), if_neg (by omega), if_neg (by omega)]
    exact hL j (by omega)
  · rw [hL1]; rfl
  · rfl
  · rfl
  · rfl
/-! the class's end of it -/
theorem st_fill (k : am_M → am_Rs) (M : am_M) (n : Nat) {v : Nat} (hv : v < 3) : XL_J7_fill_53178_35_1 k (n + 1) (-1) v 3 M = XL_J7_fill_53178_35_1 k n (-1) ((v + 1 : Nat) : Int) 3 (am_up M 35 v (-1)) := by
  rw [XL_J7_fill_53178_35_1, XB_J7_fill_53178_35_1, wI_of (x := (v : Int)) (by omega) (by omega), if_pos (show (v : Int) < wI 3 by rw [wI_of (by decide) (by decide)]; omega), if_pos (by omega), Int.toNat_natCast, show (v : Int) + 1 = ((v + 1 : Nat) : Int) by omega]
noncomputable def cFl (C : am_M) : am_M := am_up (am_up (am_up C 35 0 (-1)) 35 1 (-1)) 35 2 (-1)
noncomputable def cTk (C : am_M) : am_M := am_cpy (am_cpy (am_up C 11 0 (C 8 0)) 9 12 0 0 12) 10 13 0 0 12
noncomputable def cBg (C : am_M) : am_M := am_up (am_up (am_up (am_up (am_up C 14 0 0) 14 1 (C 7 1)) 14 2 (C 7 2)) 14 3 (C 7 3)) 17 0 (C 7 1)
theorem sp_fill (C : am_M) : X_J7_fill_53178_35 (-1) C = some (0, cFl C) := by
  rw [X_J7_fill_53178_35, XB_J7_fill_53178_35_e]
  have e : XL_J7_fill_53178_35_1 XB_J7_fill_53178_35_3 (999 + 1) (-1) ((0 : Nat) : Int) 3 C = some (0, cFl C) := by
    rw [st_fill _ _ 999 (by decide), st_fill _ _ 998 (by decide), st_fill _ _ 997 (by decide)]
    show XL_J7_fill_53178_35_1 XB_J7_fill_53178_35_3 (996 + 1) (-1) ((3 : Nat) : Int) 3 _ = _
    rw [XL_J7_fill_53178_35_1, XB_J7_fill_53178_35_1, if_neg (by decide)]
    rfl
  exact e
theorem cF_o {C : am_M} {a : Nat} (h1 : a ≠ 11) (h2 : a ≠ 12) (h3 : a ≠ 13) (h4 : a ≠ 14) (h5 : a ≠ 17) (h6 : a ≠ 35) : cFl (cBg (cTk C)) a = C a := by
  unfold cFl cBg cTk
  rw [up_a h6, up_a h6, up_a h6, up_a h5, up_a h4, up_a h4, up_a h4, up_a h4, cpy_a h3, cpy_a h2, up_a h1]
theorem cF_11 (C : am_M) : cFl (cBg (cTk C)) 11 0 = C 8 0 := by
  unfold cFl cBg cTk
  rw [up_a (by decide), up_a (by decide), up_a (by decide), up_a (by decide), up_a (by decide), up_a (by decide), up_a (by decide), up_a (by decide), cpy_a (by decide), cpy_a (by decide), up_s]
theorem cF_12 (C : am_M) (j : Nat) : cFl (cBg (cTk C)) 12 j = if j < 12 then C 9 j else C 12 j := by
  unfold cFl cBg cTk
  rw [up_a (by decide), up_a (by decide), up_a (by decide), up_a (by decide), up_a (by decide), up_a (by decide), up_a (by decide), up_a (by decide), cpy_a (by decide), cpy_s, cpy_v, up_a (by decide), up_a (by decide)]
theorem cF_13 (C : am_M) (j : Nat) : cFl (cBg (cTk C)) 13 j = if j < 12 then C 10 j else C 13 j := by
  unfold cFl cBg cTk
  rw [up_a (by decide), up_a (by decide), up_a (by decide), up_a (by decide), up_a (by decide), up_a (by decide), up_a (by decide), up_a (by decide), cpy_s, cpy_v, cpy_a (by decide), up_a (by decide), cpy_a (by decide), up_a (by decide)]
theorem cT_7 (C : am_M) : cTk C 7 = C 7 := by
  unfold cTk
  rw [cpy_a (by decide), cpy_a (by decide), up_a (by decide)]
theorem cF_14 (C : am_M) : cFl (cBg (cTk C)) 14 0 = 0 ∧ cFl (cBg (cTk C)) 14 1 = C 7 1 ∧ cFl (cBg (cTk C)) 14 2 = C 7 2 ∧ cFl (cBg (cTk C)) 14 3 = C 7 3 := by
  unfold cFl cBg
  rw [up_a (by decide), up_a (by decide), up_a (by decide), up_a (by decide), cT_7]
  exact ⟨rfl, rfl, rfl, rfl⟩
theorem cF_17 (C : am_M) : cFl (cBg (cTk C)) 17 0 = C 7 1 ∧ ∀ j, j ≠ 0 → cFl (cBg (cTk C)) 17 j = C 17 j := by
  constructor
  · unfold cFl cBg
    rw [up_a (by decide), up_a (by decide), up_a (by decide), up_s, cT_7]
  · intro j hj
    unfold cFl cBg cTk
    rw [up_a (by decide), up_a (by decide), up_a (by decide), up_j hj, up_a (by decide), up_a (by decide), up_a (by decide), up_a (by decide), cpy_a (by decide), cpy_a (by decide), up_a (by decide)]
theorem eq_land {M : am_M} (I : Inv M) {t : Int} (ht : iR t) : Step (X_X8_land_0 t) (X_X9_land_53 t) M := gd_land I ht fun h1 h2 => by
  obtain ⟨t, rfl⟩ := Int.eq_ofNat_of_zero_le h1.1
  rw [Int.toNat_natCast] at h2
  have hb := I.2.2.1.2.1 t
  have c0 : X_X8_land_0 t M = (X_X5_read_7 t M).bind fun z3 => if wI z3.1 = (-9) then (X_X2_takeFrom_11_8 z3.2).bind fun z4 => (X_X1_begin_14 (z4.2 7 1) (z4.2 7 2) (z4.2 7 3) z4.2).bind fun z5 => (X_J7_fill_53178_35 (-1) z5.2).bind fun z6 => some (z6.2 11 0, z6.2) else some ((-4), z3.2) := by
    rw [X_X8_land_0, sp_isNumber_4 I.sh4 ht, b2_t h1, ob]
    dsimp +instances only
    rw [if_neg (by decide), sp_isThere_4 I.sh4 h1, Int.toNat_natCast, b2_t h2, ob]
    dsimp +instances only
    rw [if_neg (by decide)]
  have m0 : ∀ N : am_M, N 59 = M 59 → X_X9_land_53 t N = (X_X9_faultOf_53 t N).bind fun z2 => if wI z2.1 = (-9) then XL_X9_land_53_7 (XB_X9_land_53_9 (XL_X9_land_53_10 (XB_X9_land_53_12 (XL_X9_land_53_13 (XB_X9_land_53_15) 1000)) 1000)) 1000 0 (am_up z2.2 53 1 (z2.2 53 17)) else some ((-4), z2.2) := fun N hN => by
    have e59 : N 59 t = M 5 t := by rw [hN, I.2.2.1.1]
    rw [X_X9_land_53, XB_X9_land_53_e, sp_isText _ ht, b2_t h1, ob]
    dsimp +instances only
    rw [if_neg (by decide), wI_of (x := (t : Int)) (by omega) (by omega), if_pos (by omega), Int.toNat_natCast, e59, wI_of (x := M 5 t) (by omega) (by omega), if_neg (by omega)]
  obtain ⟨v, C', D0, a1, a2, a3⟩ := sim_two I.b (t := t) (by omega) h2
  have vr := a3.2.2.2.1
  have f59 : C' 59 = M 59 := a3.1 59 (by decide) (by decide) (by decide) (by decide)
  have f60 : C' 60 = M 60 := a3.1 60 (by decide) (by decide) (by decide) (by decide)
  rw [a1, ob] at c0
  dsimp +instances only at c0
  rw [wI_of (x := v) (by omega) (by omega)] at c0
  by_cases cv : v = -9
  · rw [if_pos cv] at c0
    have c1 : X_X8_land_0 t M = some (C' 8 0, cFl (cBg (cTk C'))) := by
      rw [c0, X_X2_takeFrom_11_8, ob]
      dsimp +instances only
      rw [X_X1_begin_14, ob]
      dsimp +instances only
      rw [sp_fill, ob]
      show some ((cFl (cBg (cTk C'))) 11 0, cFl (cBg (cTk C'))) = _
      rw [cF_11]
    obtain ⟨v2, C2, D', b1, b2', b3⟩ := sim_read I.b (N := cFl (cBg (cTk C'))) (t := t) (by omega) h2 ⟨by rw [cF_o (by decide) (by decide) (by decide) (by decide) (by decide) (by decide), f59], by rw [cF_o (by decide) (by decide) (by decide) (by decide) (by decide) (by decide), f60]⟩
    rw [a1] at b1
    obtain ⟨rfl, rfl⟩ : v = v2 ∧ C' = C2 := by
      injection b1 with b1
      injection b1 with e1 e2
      exact ⟨e1, e2⟩
    obtain ⟨o1, o2, ⟨b9, b10⟩, -, oL⟩ := b3
    obtain ⟨m, hm, l8, l17, lE, ⟨l630, l631, l632⟩, lb, lr0, lr1⟩ := oL cv
    have m1 := m0 (cFl (cBg (cTk C'))) (by rw [cF_o (by decide) (by decide) (by decide) (by decide) (by decide) (by decide), f59])
    rw [b2', ob] at m1
    dsimp +instances only at m1
    rw [wI_of (x := v) (by omega) (by omega), if_pos cv, l17] at m1
    obtain ⟨DA, hDA⟩ : ∃ DA, DA = am_up D' 53 1 (m : Int) := ⟨_, rfl⟩
    have e62 : DA 62 = D' 62 := by rw [hDA, up_a (by decide)]
    have e63 : DA 63 = D' 63 := by rw [hDA, up_a (by decide)]
    have e53 : DA 53 1 = (m : Int) := by rw [hDA, up_s]
    have dA : ∀ a, a ≠ 53 → a ≠ 62 → a ≠ 63 → DA a = cFl (cBg (cTk C')) a := fun a h1 h2 h3 => by rw [hDA, up_a h1, o2.1 a h1 h2 h3]
    have g := I.gM
    have k55 : DA 55 = M 55 := by rw [dA 55 (by decide) (by decide) (by decide), cF_o (by decide) (by decide) (by decide) (by decide) (by decide) (by decide), o1 55 (by decide) (by decide) (by decide) (by decide)]
    have k56 : DA 56 = M 56 := by rw [dA 56 (by decide) (by decide) (by decide), cF_o (by decide) (by decide) (by decide) (by decide) (by decide) (by decide), o1 56 (by decide) (by decide) (by decide) (by decide)]
    rw [← hDA] at m1
    obtain ⟨f, gg, p1, p2, p3⟩ := lp_l7 (XB_X9_land_53_9 (XL_X9_land_53_10 (XB_X9_land_53_12 (XL_X9_land_53_13 (XB_X9_land_53_15) 1000)) 1000)) (D := DA) (m := m) hm.2 e53 (fun j hj => by rw [e62, (lE j hj).1, (lE j hj).2]; exact ⟨b9 j, b10 j⟩) m 1000 0 (DA 55) (DA 56) (by omega) (by omega) (fun j hj => by omega) (fun j => by rw [k55, k56]; exact ⟨g.2.2.1 j, g.2.2.2 j⟩)
    rw [row_self, row_self, show ((0 : Nat) : Int) = 0 from rfl] at p1
    obtain ⟨X, hX⟩ : ∃ X, X = am_row (am_row DA 55 f) 56 gg := ⟨_, rfl⟩
    rw [← hX] at p1
    obtain ⟨L, q1, q2⟩ := lp_l10 (XB_X9_land_53_12 (XL_X9_land_53_13 (XB_X9_land_53_15) 1000)) X 121 1000 0 (X 54) (by omega) (by omega) (fun j hj => by omega)
    rw [row_self, show ((0 : Nat) : Int) = 0 from rfl] at q1
    obtain ⟨L', r1, z0, z1, z2, z3, zz, z120, zk1, zk2, zk3⟩ := sp_l12 X L q2
    have mE : X_X9_land_53 t (cFl (cBg (cTk C'))) = some (X 53 1, am_row X 54 L') := by
      rw [m1, p1, XB_X9_land_53_9, q1, r1]
    have x53 : X 53 = DA 53 := by rw [hX, row_a (by decide), row_a (by decide)]
    have x63 : X 63 = DA 63 := by rw [hX, row_a (by decide), row_a (by decide)]
    have nF : ∀ a, a ≠ 53 → a ≠ 54 → a ≠ 55 → a ≠ 56 → a ≠ 62 → a ≠ 63 → am_row X 54 L' a = cFl (cBg (cTk C')) a := fun a h1 h2 h3 h4 h5 h6 => by rw [row_a h2, hX, row_a h4, row_a h3, dA a h1 h5 h6]
    have n55 : am_row X 54 L' 55 = f := by rw [row_a (by decide), hX, row_a (by decide), row_s]
    have n56 : am_row X 54 L' 56 = gg := by rw [row_a (by decide), hX, row_s]
    have n54 : am_row X 54 L' 54 = L' := row_s
    have g11 := I.g11
    have h17 := cF_17 C'
    have h14 := cF_14 C'
    have i17 : ∀ j, 0 ≤ M 17 j ∧ M 17 j ≤ 12 := I.2.2.2.2.1.2.2.1.2.2.1
    refine ⟨_, _, _, _, c1, mE, ?_, ?_⟩
    · rw [x53, e53, l8]
    · refine inv_land I (m := m) (b := C' 7 1) (r0 := C' 7 2) (r1 := C' 7 3) (fun a ha => ?_) (fun j hj => ?_) hm ?_ ?_ ?_ ?_ ?_ ?_ ?_ ?_ ?_ ?_ ?_ ?_ ?_ lb lr0 lr1 ?_ ?_ ?_ ?_ ?_ ?_ ?_ ?_ ?_ ?_
      · rw [nF a (by omega) (by omega) (by omega) (by omega) (by omega) (by omega), cF_o (by omega) (by omega) (by omega) (by omega) (by omega) (by omega), o1 a (by omega) (by omega) (by omega) (by omega)]
      · rw [row_a (by decide), x53, hDA, up_j (by omega), o2.2 j (Or.inr hj), cF_o (by decide) (by decide) (by decide) (by decide) (by decide) (by decide), o1 53 (by decide) (by decide) (by decide) (by decide)]
      · rw [nF 11 (by decide) (by decide) (by decide) (by decide) (by decide) (by decide), cF_11, l8]
      · rw [row_a (by decide), x53, e53]
      · rw [nF 9 (by decide) (by decide) (by decide) (by decide) (by decide) (by decide), cF_o (by decide) (by decide) (by decide) (by decide) (by decide) (by decide)]; exact b9
      · rw [nF 10 (by decide) (by decide) (by decide) (by decide) (by decide) (by decide), cF_o (by decide) (by decide) (by decide) (by decide) (by decide) (by decide)]; exact b10
      · intro i
        rw [nF 12 (by decide) (by decide) (by decide) (by decide) (by decide) (by decide), cF_12]
        split
        · exact b9 i
        · rw [o1 12 (by decide) (by decide) (by decide) (by decide)]; exact g11.2.2.1 i
      · intro i
        rw [nF 13 (by decide) (by decide) (by decide) (by decide) (by decide) (by decide), cF_13]
        split
        · exact b10 i
        · rw [o1 13 (by decide) (by decide) (by decide) (by decide)]; exact g11.2.2.2 i
      · rw [n55]; exact fun i => (p3 i).1
      · rw [n56]; exact fun i => (p3 i).2
      · intro i hi
        rw [n55, n56, nF 12 (by decide) (by decide) (by decide) (by decide) (by decide) (by decide), nF 13 (by decide) (by decide) (by decide) (by decide) (by decide) (by decide), cF_12, cF_13, if_pos (by omega), if_pos (by omega), (p2 i hi).1, (p2 i hi).2, e62, (lE i hi).1, (lE i hi).2]
        exact ⟨rfl, rfl⟩
      · rw [nF 14 (by decide) (by decide) (by decide) (by decide) (by decide) (by decide)]; exact h14.1
      · rw [nF 14 (by decide) (by decide) (by decide) (by decide) (by decide) (by decide)]; exact h14.2.1
      · rw [nF 14 (by decide) (by decide) (by decide) (by decide) (by decide) (by decide)]; exact h14.2.2.1
      · rw [nF 14 (by decide) (by decide) (by decide) (by decide) (by decide) (by decide)]; exact h14.2.2.2
      · rw [nF 17 (by decide) (by decide) (by decide) (by decide) (by decide) (by decide)]; exact h17.1
      · intro i
        rw [nF 17 (by decide) (by decide) (by decide) (by decide) (by decide) (by decide)]
        by_cases c : i = 0
        · rw [c, h17.1]; omega
        · rw [h17.2 i c, o1 17 (by decide) (by decide) (by decide) (by decide)]; exact i17 i
      · rw [nF 35 (by decide) (by decide) (by decide) (by decide) (by decide) (by decide)]
        unfold cFl
        exact ⟨rfl, rfl, rfl⟩
      · rw [n54]; exact z0
      · rw [n54, z1, x63, e63, l630]
      · rw [n54, z2, x63, e63, l631]
      · rw [n54, z3, x63, e63, l632]
      · rw [n54]; exact zz
      · rw [n54, z120, x63, e63, l630]
      · rw [n54]; exact ⟨zk1, zk2, zk3⟩
  · rw [if_neg cv] at c0
    have m1 := m0 C' f59
    rw [a2, ob] at m1
    dsimp +instances only at m1
    rw [wI_of (x := v) (by omega) (by omega), if_neg cv] at m1
    exact ⟨_, _, _, _, c0, m1, rfl, Kp.inv (inv_910 I a3.2.2.1.1 a3.2.2.1.2) a3.k⟩
end
