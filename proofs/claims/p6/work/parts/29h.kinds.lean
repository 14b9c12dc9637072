/-! Kinds: of which kind a strip can have been. -/
noncomputable def Gd48 (M : am_M) : Prop := 0 ≤ M 48 0 ∧ M 48 0 ≤ 12 ∧ ∀ i : Nat, (i : Int) < M 48 0 → 0 ≤ M 49 i ∧ M 49 i ≤ 5
theorem sp_rudeness_48 {M : am_M} (h : Gd48 M) {b mv day : Int} (hb : 0 ≤ b ∧ b ≤ M 48 0) (hm : -1 ≤ mv ∧ mv ≤ 1) (hd : 0 ≤ day ∧ day < 1000) : X_X2_rudeness_48 b mv day M = some (rud (M 48 0) (M 49) b mv day, M) := by
  obtain ⟨h1, h2, h3⟩ := h
  have ht : wI (day.tmod 2) = day % 2 := by rw [tm2 hd.1]; exact wI_of (by omega) (by omega)
  unfold rud crs
  rcases (show mv = -1 ∨ mv = 0 ∨ mv = 1 by omega) with rfl | rfl | rfl
  · by_cases c : b - 1 < 0
    · simp only [X_X2_rudeness_48, show wI (-1) = -1 from rfl, show ¬ ((-1 : Int) = 0) by decide, show (-1 : Int) < 0 by decide, if_true, if_false, wI_of (x := b - 1) (by omega) (by omega), if_pos c, if_pos (show b - 1 < 0 ∨ M 48 0 ≤ b - 1 from Or.inl c)]
    · have hk : wI (M 49 (b - 1).toNat) = M 49 (b - 1).toNat := by
        have := h3 (b - 1).toNat (by omega)
        exact wI_of (by omega) (by omega)
      simp only [X_X2_rudeness_48, show wI (-1) = -1 from rfl, show ¬ ((-1 : Int) = 0) by decide, show (-1 : Int) < 0 by decide, if_true, if_false, wI_of (x := b - 1) (by omega) (by omega), wI_of (x := M 48 0) (by omega) (by omega), wI_of (x := day) (by omega) (by omega), hk, ht]
      repeat' split
      all_goals first | rfl | (exfalso; omega) | simp_all
  · simp only [X_X2_rudeness_48, show wI 0 = 0 from rfl, if_true]
  · by_cases c : b < M 48 0
    · have hk : wI (M 49 b.toNat) = M 49 b.toNat := by
        have := h3 b.toNat (by omega)
        exact wI_of (by omega) (by omega)
      simp only [X_X2_rudeness_48, show wI 1 = 1 from rfl, show ¬ ((1 : Int) = 0) by decide, show ¬ (1 : Int) < 0 by decide, if_true, if_false, wI_of (x := b) (by omega) (by omega), wI_of (x := M 48 0) (by omega) (by omega), wI_of (x := day) (by omega) (by omega), hk, ht]
      repeat' split
      all_goals first | rfl | (exfalso; omega) | simp_all
    · simp only [X_X2_rudeness_48, show wI 1 = 1 from rfl, show ¬ ((1 : Int) = 0) by decide, show ¬ (1 : Int) < 0 by decide, if_true, if_false, wI_of (x := b) (by omega) (by omega), wI_of (x := M 48 0) (by omega) (by omega), if_neg (show ¬ b < 0 by omega), if_neg c, if_pos (show b < 0 ∨ M 48 0 ≤ b by omega)]
theorem sp_borderAfter_48 {M : am_M} (h : Gd48 M) {b day x y : Int} (hb : 0 ≤ b ∧ b ≤ M 48 0) (hd : 0 ≤ day ∧ day < 1000) (hx : 0 ≤ x ∧ x ≤ 3) (hy : 0 ≤ y ∧ y ≤ 3) : X_X2_borderAfter_48 b day x y M = some (aft (M 48 0) (M 49) b day x y, M) := by
  have hc : -1 ≤ cmp_ y x ∧ cmp_ y x ≤ 1 := by unfold cmp_; repeat' split
                                               all_goals omega
  have hr := rud_r (M 48 0) (M 49) b (cmp_ y x) day
  have hg : (if 0 ≤ wI (x - y) then x - y else 0 - (x - y)) = gap_ x y := by
    rw [wI_of (by omega) (by omega)]
    unfold gap_
    split <;> split <;> omega
  have hgr : 0 ≤ gap_ x y ∧ gap_ x y ≤ 3 := by unfold gap_; split <;> omega
  simp only [X_X2_borderAfter_48, sp_compare y x M (by unfold iR; omega) (by unfold iR; omega), ob, sp_rudeness_48 h hb hc hd, hg, wI_of (x := rud (M 48 0) (M 49) b (cmp_ y x) day) (by omega) (by omega), wI_of (x := gap_ x y) (by omega) (by omega), aft]
  by_cases c1 : rud (M 48 0) (M 49) b (cmp_ y x) day = -1
  · rw [if_pos c1, if_pos (Or.inl c1)]
  · rw [if_neg c1]
    by_cases c2 : gap_ x y < rud (M 48 0) (M 49) b (cmp_ y x) day
    · rw [if_pos c2, if_pos (Or.inr c2)]
    · rw [if_neg c2, if_neg (by omega)]
theorem lp_rt_48 {M : am_M} (g : Gd48 M) (hd : 0 ≤ M 14 0 ∧ M 14 0 ≤ 40) (hS : ∀ j, (0 ≤ M 15 j ∧ M 15 j ≤ 3) ∧ (0 ≤ M 16 j ∧ M 16 j ≤ 3)) {p : Int} (hp : 0 ≤ p ∧ p ≤ M 48 0) : ∀ (e n i : Nat) (f : Nat → Int), (i : Int) + e = M 14 0 → e < n → (∀ j, j ≤ i → f j = tr_ (aft (M 48 0) (M 49)) (M 15) (M 16) p j) → ∃ f', XL_X1_retrace_14_48_51_3 XB_X1_retrace_14_48_51_6 n i (am_row M 51 f) = some (0, am_row M 51 f') ∧ ∀ j : Nat, (j : Int) ≤ M 14 0 → f' j = tr_ (aft (M 48 0) (M 49)) (M 15) (M 16) p j := by
  intro e
  induction e with
  | zero =>
    intro n i f hi hn hf
    obtain ⟨n, rfl⟩ : ∃ m, n = m + 1 := ⟨n - 1, by omega⟩
    refine ⟨f, ?_, fun j hj => hf j (by omega)⟩
    rw [XL_X1_retrace_14_48_51_3, XB_X1_retrace_14_48_51_3, row_a (by decide), wI_of (x := (i : Int)) (by omega) (by omega), wI_of (x := M 14 0) (by omega) (by omega), if_neg (by omega)]
    rfl
  | succ e ih =>
    intro n i f hi hn hf
    obtain ⟨n, rfl⟩ : ∃ m, n = m + 1 := ⟨n - 1, by omega⟩
    have g' : Gd48 (am_row M 51 f) := by
      unfold Gd48 at g ⊢
      rw [row_a (by decide), row_a (by decide)]; exact g
    have hb : 0 ≤ f i ∧ f i ≤ M 48 0 := by
      rw [hf i (Nat.le_refl _)]
      exact tr_r (fun b d x y h => aft_r h) hp i
    have b := sp_borderAfter_48 g' (b := f i) (day := (i : Int)) (x := M 15 i) (y := M 16 i) (by rw [row_a (by decide)]; exact hb) (by omega) (hS i).1 (hS i).2
    rw [row_a (by decide), row_a (by decide)] at b
    obtain ⟨x, hx⟩ : ∃ x, x = aft (M 48 0) (M 49) (f i) i (M 15 i) (M 16 i) := ⟨_, rfl⟩
    rw [← hx] at b
    obtain ⟨f', c1, c2⟩ := ih n (i + 1) (fun j => if j = i + 1 then x else f j) (by push_cast; omega) (by omega) (fun j hj => by
      by_cases c : j = i + 1
      · rw [if_pos c, c, tr_, hx, hf i (Nat.le_refl _)]
      · rw [if_neg c, hf j (by omega)])
    refine ⟨f', ?_, c2⟩
    rw [← c1, XL_X1_retrace_14_48_51_3, XB_X1_retrace_14_48_51_3, row_a (a' := 14) (by decide), row_s, row_a (a' := 15) (by decide), row_a (a' := 16) (by decide), wI_of (x := (i : Int)) (by omega) (by omega), wI_of (x := M 14 0) (by omega) (by omega), if_pos (by omega), if_pos (by omega), if_pos (by omega), if_pos (by omega), if_pos (by omega), Int.toNat_natCast, b, ob]
    dsimp +instances only
    rw [show (i : Int) + 1 = ((i + 1 : Nat) : Int) by omega, wI_of (x := ((i + 1 : Nat) : Int)) (by omega) (by omega), if_pos (by omega), Int.toNat_natCast, up_row, row_row, row_s]
theorem sp_rt_48 {M : am_M} (g : Gd48 M) (hd : 0 ≤ M 14 0 ∧ M 14 0 ≤ 40) (hS : ∀ j, (0 ≤ M 15 j ∧ M 15 j ≤ 3) ∧ (0 ≤ M 16 j ∧ M 16 j ≤ 3)) {p : Int} (hp : 0 ≤ p ∧ p ≤ M 48 0) (f : Nat → Int) : ∃ f', X_X1_retrace_14_48_51 p (am_row M 51 f) = some (0, am_row M 51 f') ∧ ∀ j : Nat, (j : Int) ≤ M 14 0 → f' j = tr_ (aft (M 48 0) (M 49)) (M 15) (M 16) p j := by
  obtain ⟨f', c1, c2⟩ := lp_rt_48 g hd hS hp (M 14 0).toNat 1000 0 (fun j => if j = 0 then p else f j) (by omega) (by omega) (fun j hj => by
    have : j = 0 := by omega
    rw [if_pos this, this, tr_])
  refine ⟨f', ?_, c2⟩
  rw [X_X1_retrace_14_48_51, XB_X1_retrace_14_48_51_e, up_row, row_row, row_s]
  exact c1
/-- where it would be now, had strip i been of kind c -/
noncomputable def kk (M : am_M) (i : Nat) (c : Int) : Nat → Int := tr_ (aft (M 11 0) (fun j => if j = i then c else M 12 j)) (M 15) (M 16) (M 17 0)
noncomputable def kS (M : am_M) (i t k : Nat) : Prop := k < t ∧ kk M i k (M 14 0).toNat = M 14 1
theorem kS_t {M : am_M} {i t : Nat} {v : Int} (ht : t < 20) (h : BS v (kS M i t)) (c : kk M i t (M 14 0).toNat = M 14 1) : BS (b_or_ v (b_shl_ 1 t)) (kS M i (t + 1)) :=
  (h.or (BS.one (j := (t : Int)) (by omega))).c fun k _ => by
    unfold kS
    constructor
    · rintro (⟨h1, h2⟩ | h1)
      · exact ⟨by omega, h2⟩
      · have : k = t := by omega
        subst this; exact ⟨by omega, c⟩
    · rintro ⟨h1, h2⟩
      by_cases e : k = t
      · right; omega
      · left; exact ⟨by omega, h2⟩
theorem kS_f {M : am_M} {i t : Nat} {v : Int} (h : BS v (kS M i t)) (c : ¬ kk M i t (M 14 0).toNat = M 14 1) : BS v (kS M i (t + 1)) :=
  h.c fun k _ => by
    unfold kS
    constructor
    · rintro ⟨h1, h2⟩
      exact ⟨by omega, h2⟩
    · rintro ⟨h1, h2⟩
      by_cases e : k = t
      · subst e; exact absurd h2 c
      · exact ⟨by omega, h2⟩
theorem kS_0 (M : am_M) (i : Nat) : BS 0 (kS M i 0) := BS.z.c fun k _ => ⟨fun h => h.elim, fun h => absurd h.1 (Nat.not_lt_zero _)⟩
theorem Ib.first {M : am_M} (I : Ib M) : M 54 120 = M 17 0 := by
  have := I.2.2.2.2.2.2.1.1
  rw [Nat.zero_add] at this; exact this.symm
theorem Ib.h0 {M : am_M} (I : Ib M) : 0 ≤ M 17 0 ∧ M 17 0 ≤ M 11 0 := ⟨(I.2.2.2.2.2.2.1.2.2.1 0).1, I.2.2.2.2.2.2.1.2.2.2.1 0 I.r0.1⟩
theorem kk_r {M : am_M} (I : Ib M) (i : Nat) (c : Int) (n : Nat) : 0 ≤ kk M i c n ∧ kk M i c n ≤ M 11 0 := tr_r (fun _ _ _ _ h => aft_r h) I.h0 n
theorem kk_c {M : am_M} {i : Nat} {c : Int} {s : Int} {g : Nat → Int} (hs : s = M 11 0) (hg : ∀ j : Nat, (j : Int) < M 11 0 → g j = if j = i then c else M 12 j) : tr_ (aft s g) (M 15) (M 16) (M 17 0) = kk M i c := by
  unfold kk
  rw [hs, show aft (M 11 0) g = aft (M 11 0) (fun j => if j = i then c else M 12 j) by
    funext b d x y
    exact aft_c hg b d x y]
/-! the class -/
theorem lp_ck {M : am_M} (I : Inv M) {i : Nat} (hi : (i : Int) < M 11 0) : ∀ (e n t : Nat) (v : Int) (N : am_M), Kp M N → N 48 0 = M 11 0 → (∀ j : Nat, (j : Int) < M 11 0 → j ≠ i → N 49 j = M 12 j) → BS v (kS M i t) → t + e = 6 → e < n → ∃ w N2, XL_X3_kindsThatFit_47_1 XB_X3_kindsThatFit_47_5 n i v t N = some (w, N2) ∧ Kp M N2 ∧ BS w (kS M i 6) := by
  intro e
  have rs := I.rs
  have r0 := I.r0
  have r1 := I.r1
  induction e with
  | zero =>
    intro n t v N k h48 h49 hv ht hn
    obtain ⟨n, rfl⟩ : ∃ m, n = m + 1 := ⟨n - 1, by omega⟩
    have : t = 6 := by omega
    subst this
    refine ⟨v, N, ?_, k, hv⟩
    rw [XL_X3_kindsThatFit_47_1, XB_X3_kindsThatFit_47_1, if_neg (by decide)]
    rfl
  | succ e ih =>
    intro n t v N k h48 h49 hv ht hn
    obtain ⟨n, rfl⟩ : ∃ m, n = m + 1 := ⟨n - 1, by omega⟩
    obtain ⟨N1, hN1⟩ : ∃ N1, N1 = am_up N 49 i (t : Int) := ⟨_, rfl⟩
    have k1 : Kp M N1 := by rw [hN1]; exact k.tr (Kp.up (by decide))
    have I1 : Inv N1 := Kp.inv I k1
    have q48 : N1 48 0 = M 11 0 := by rw [hN1, up_a (by decide), h48]
    have q49 : ∀ j : Nat, (j : Int) < M 11 0 → N1 49 j = if j = i then (t : Int) else M 12 j := fun j hj => by
      rw [hN1]
      by_cases c : j = i
      · rw [if_pos c, c, up_s]
      · rw [if_neg c, up_j c, h49 j hj c]
    have g : Gd48 N1 := ⟨by omega, by omega, fun j hj => by
      rw [q49 j (by omega)]
      split
      · omega
      · exact I.g11.2.2.1 j⟩
    have a1 : X_X2_setKind_48 i t N = some (0, N1) := by
      have hh : X_X2_has_48 i N = some (1, N) := by
        rw [X_X2_has_48, h48, wI_of (x := (i : Int)) (by omega) (by omega), wI_of (x := M 11 0) (by omega) (by omega), if_neg (by omega), if_pos (by omega)]
      rw [X_X2_setKind_48, hh, ob]
      dsimp +instances only
      rw [if_neg (by decide), wI_of (x := (i : Int)) (by omega) (by omega), if_pos (by omega), Int.toNat_natCast, hN1]
    have e17 : N1 17 = M 17 := k1.1 17 (by decide)
    have e14 : N1 14 = M 14 := k1.1 14 (by decide)
    have e15 : N1 15 = M 15 := k1.1 15 (by decide)
    have e16 : N1 16 = M 16 := k1.1 16 (by decide)
    have a2 : X_X1_borderAhead_14 0 N1 = some (M 17 0, N1) := by
      have := sp_ahead I1 (n := 0) (by rw [e14]; omega)
      rw [e17] at this; exact this
    obtain ⟨f', a3, a4⟩ := sp_rt_48 g (by rw [e14]; exact r0) I1.b.said (p := M 17 0) (by rw [q48]; exact I.b.h0) (N1 51)
    rw [row_self] at a3
    rw [e14, e15, e16, kk_c q48 q49] at a4
    have k2 : Kp M (am_row N1 51 f') := k1.tr (Kp.row (by decide))
    have e14' : am_row N1 51 f' 14 = M 14 := by rw [row_a (by decide), e14]
    have a5 : X_X3_trailAt_47 (M 14 0) (am_row N1 51 f') = some (kk M i t (M 14 0).toNat, am_row N1 51 f') := by
      rw [sp_trailAt r0, row_s, a4 _ (by omega)]
    have kr := kk_r I.b i t (M 14 0).toNat
    have n48 : am_row N1 51 f' 48 0 = M 11 0 := by rw [row_a (by decide), q48]
    have n49 : ∀ j : Nat, (j : Int) < M 11 0 → j ≠ i → am_row N1 51 f' 49 j = M 12 j := fun j hj c => by rw [row_a (by decide), q49 j hj, if_neg c]
    rw [XL_X3_kindsThatFit_47_1, XB_X3_kindsThatFit_47_1, wI_of (x := (t : Int)) (by omega) (by omega), if_pos (by omega), a1, ob]
    dsimp +instances only
    rw [a2, ob]
    dsimp +instances only
    rw [a3, ob]
    dsimp +instances only
    rw [e14', a5, ob]
    dsimp +instances only
    rw [e14', wI_of (x := kk M i t (M 14 0).toNat) (by omega) (by omega), wI_of (x := M 14 1) (by omega) (by omega), show (t : Int) + 1 = ((t + 1 : Nat) : Int) by omega]
    by_cases c : kk M i t (M 14 0).toNat = M 14 1
    · rw [if_pos c]
      exact ih n (t + 1) _ _ k2 n48 n49 (kS_t (by omega) hv c) (by omega) (by omega)
    · rw [if_neg c]
      exact ih n (t + 1) _ _ k2 n48 n49 (kS_f hv c) (by omega) (by omega)
theorem sp_ck {M : am_M} (I : Inv M) {i : Nat} (hi : (i : Int) < M 11 0) : ∃ w N2, X_X3_kindsThatFit_47 i M = some (w, N2) ∧ Kp M N2 ∧ BS w (kS M i 6) := by
  have rs := I.rs
  obtain ⟨w, N2, a1, a2⟩ := lp_ck I hi 6 1000 0 0 (am_cpy (am_cpy (am_up M 48 0 (M 11 0)) 12 49 0 0 12) 13 50 0 0 12) (((Kp.up (by decide)).tr (Kp.row (by decide))).tr (Kp.row (by decide))) (by rw [cpy_a (by decide), cpy_a (by decide), up_s]) (fun j hj c => by
    rw [cpy_a (by decide), cpy_s, cpy_v, if_pos (by omega), up_a (by decide)]) (kS_0 M i) (by omega) (by omega)
  refine ⟨w, N2, ?_, a2⟩
  rw [X_X3_kindsThatFit_47, XB_X3_kindsThatFit_47_e, X_X2_takeFrom_48_11, ob]
  exact a1
/-! the model -/
theorem lp_bg (k : Int → am_M → am_Rs) {N : am_M} (G : GdM N) {a b : Nat → Int} (hS : ∀ j, (0 ≤ a j ∧ a j ≤ 3) ∧ (0 ≤ b j ∧ b j ≤ 3)) {p : Int} (hp : 0 ≤ p ∧ p ≤ N 53 1) {d : Nat} (hd : d ≤ 40) (hW : ∀ j, j < d → N 54 (40 + j) = 4 * a j + b j) : ∀ (e n i : Nat), i + e = d → e < n → XL_X9_broughtTo_53_1 k n d (tr_ (aft (N 53 1) (N 55)) a b p i) i N = k (tr_ (aft (N 53 1) (N 55)) a b p d) N := by
  intro e
  induction e with
  | zero =>
    intro n i hi hn
    obtain ⟨n, rfl⟩ : ∃ m, n = m + 1 := ⟨n - 1, by omega⟩
    have : i = d := by omega
    subst this
    rw [XL_X9_broughtTo_53_1, XB_X9_broughtTo_53_1, if_neg (by omega)]
  | succ e ih =>
    intro n i hi hn
    obtain ⟨n, rfl⟩ : ∃ m, n = m + 1 := ⟨n - 1, by omega⟩
    have hS := hS i
    have hb := tr_r (a := a) (b := b) (fun b d x y (h : 0 ≤ b ∧ b ≤ N 53 1) => aft_r (kd := N 55) (day := d) (x := x) (y := y) h) hp i
    have u1 : ∀ _ : Unit, (wI (4 * a i + b i)).tdiv 4 = a i := fun _ => by rw [wI_of (by omega) (by omega), Int.tdiv_eq_ediv_of_nonneg (by omega)]; omega
    have u2 : ∀ _ : Unit, (wI (4 * a i + b i)).tmod 4 = b i := fun _ => by rw [wI_of (by omega) (by omega), Int.tmod_eq_emod_of_nonneg (by omega)]; omega
    rw [XL_X9_broughtTo_53_1, XB_X9_broughtTo_53_1, wI_of (x := (i : Int)) (by omega) (by omega), wI_of (x := (d : Int)) (by omega) (by omega), if_pos (by omega), show (40 : Int) + i = ((40 + i : Nat) : Int) by omega, wI_of (x := ((40 + i : Nat) : Int)) (by omega) (by omega), if_pos (by omega), if_pos (by omega), Int.toNat_natCast, hW i (by omega), u1 (), u2 (), sp_behind G hb (by omega) hS.1 hS.2, ob]
    dsimp +instances only
    rw [show (i : Int) + 1 = ((i + 1 : Nat) : Int) by omega]
    exact ih n (i + 1) (by omega) (by omega)
theorem sp_bk {M : am_M} (I : Ib M) {i t : Nat} (ht : t < 6) {N : am_M} (hN : ∀ a, a ≠ 55 → N a = M a) (h55 : ∀ j, N 55 j = if j = i then (t : Int) else M 55 j) : X_X9_broughtTo_53 (M 17 0) (M 14 0) N = some (kk M i t (M 14 0).toNat, N) := by
  have r0 := I.r0
  have h0 := I.h0
  have G : GdM N := by
    have g := I.gM
    unfold GdM at g ⊢
    rw [hN 53 (by decide), hN 56 (by decide)]
    refine ⟨g.1, g.2.1, fun j => ?_, g.2.2.2⟩
    rw [h55 j]
    split
    · omega
    · exact g.2.2.1 j
  obtain ⟨d, hd⟩ := Int.eq_ofNat_of_zero_le r0.1
  have es : N 53 1 = M 11 0 := by rw [hN 53 (by decide), I.es]
  have b := lp_bg XB_X9_broughtTo_53_3 G I.said (p := M 17 0) (by rw [es]; exact h0) (d := d) (by omega) (fun j hj => by rw [hN 54 (by decide), I.word (by omega)]) d 1000 0 (Nat.zero_add _) (by omega)
  rw [kk_c (i := i) (c := t) es (fun j hj => by rw [h55 j, I.kd hj])] at b
  rw [hd, X_X9_broughtTo_53, XB_X9_broughtTo_53_e, Int.toNat_natCast]
  exact b
theorem lp_mk {M : am_M} (I : Ib M) {i : Nat} (hi : (i : Int) < M 11 0) : ∀ (e n t : Nat) (v : Int) (g : Nat → Int), (∀ j, j ≠ i → g j = M 55 j) → BS v (kS M i t) → t + e = 6 → e < n → ∃ w, XL_X9_kinds_53_3 XB_X9_kinds_53_8 n i (M 55 i) v t (am_row M 55 g) = some (w, M) ∧ BS w (kS M i 6) := by
  intro e
  have rs := I.rs
  have r0 := I.r0
  have r1 := I.r1
  induction e with
  | zero =>
    intro n t v g hg hv ht hn
    obtain ⟨n, rfl⟩ : ∃ m, n = m + 1 := ⟨n - 1, by omega⟩
    have : t = 6 := by omega
    subst this
    refine ⟨v, ?_, hv⟩
    rw [XL_X9_kinds_53_3, XB_X9_kinds_53_3, if_neg (by decide), XB_X9_kinds_53_8, wI_of (x := (i : Int)) (by omega) (by omega), if_pos (by omega), Int.toNat_natCast, up_row, row_row, row_s]
    have : (fun j => if j = i then M 55 i else g j) = M 55 := by
      funext j
      by_cases c : j = i
      · rw [if_pos c, c]
      · rw [if_neg c, hg j c]
    rw [this, row_self]
  | succ e ih =>
    intro n t v g hg hv ht hn
    obtain ⟨n, rfl⟩ : ∃ m, n = m + 1 := ⟨n - 1, by omega⟩
    have kr := kk_r I i t (M 14 0).toNat
    obtain ⟨g', hg'⟩ : ∃ g' : Nat → Int, g' = fun j => if j = i then (t : Int) else g j := ⟨_, rfl⟩
    have eu : am_up (am_row M 55 g) 55 i (t : Int) = am_row M 55 g' := by rw [up_row, row_row, row_s, hg']
    have b1 := sp_bk I (i := i) (t := t) (by omega) (N := am_row M 55 g') (fun a ha => row_a ha) (fun j => by
      rw [row_s, hg']
      dsimp only
      by_cases c : j = i
      · rw [if_pos c, if_pos c]
      · rw [if_neg c, if_neg c, hg j c])
    have ng : ∀ j, j ≠ i → g' j = M 55 j := fun j c => by rw [hg']; dsimp only; rw [if_neg c, hg j c]
    rw [XL_X9_kinds_53_3, XB_X9_kinds_53_3, wI_of (x := (t : Int)) (by omega) (by omega), if_pos (by omega), wI_of (x := (i : Int)) (by omega) (by omega), if_pos (by omega), Int.toNat_natCast, eu, row_a (by decide), I.first, I.d0, b1, ob]
    dsimp +instances only
    rw [row_a (by decide), I.d1, wI_of (x := kk M i t (M 14 0).toNat) (by omega) (by omega), wI_of (x := M 14 1) (by omega) (by omega), show (t : Int) + 1 = ((t + 1 : Nat) : Int) by omega]
    by_cases c : kk M i t (M 14 0).toNat = M 14 1
    · rw [if_pos c]
      exact ih n (t + 1) _ _ ng (kS_t (by omega) hv c) (by omega) (by omega)
    · rw [if_neg c]
      exact ih n (t + 1) _ _ ng (kS_f ((hv.or BS.z).c fun k _ => by simp) c) (by omega) (by omega)
theorem eq_kinds {M : am_M} (I : Inv M) {i : Int} (hi : iR i) : Step (X_X8_kinds_0 i) (X_X9_kinds_53 i) M := gd_kinds I hi fun h => by
  obtain ⟨i, rfl⟩ := Int.eq_ofNat_of_zero_le h.1
  have rs := I.rs
  obtain ⟨w, N, a1, k, a2⟩ := sp_ck I h.2
  have I1 : Inv N := Kp.inv I k
  have e11 : N 11 = M 11 := k.1 11 (by decide)
  obtain ⟨w2, b1, b2'⟩ := lp_mk I1.b (i := i) (by rw [e11]; exact h.2) 6 1000 0 0 (N 55) (fun j _ => rfl) (kS_0 N i) (by omega) (by omega)
  rw [row_self] at b1
  have c0 : X_X8_kinds_0 i M = some (w, N) := by
    rw [X_X8_kinds_0, sp_has_11 I.g11 hi, b2_t h, ob]
    dsimp +instances only
    rw [if_neg (by decide), a1, ob]
  have m0 : X_X9_kinds_53 i N = some (w2, N) := by
    have es : N 53 1 = M 11 0 := by rw [I1.es, e11]
    rw [X_X9_kinds_53, XB_X9_kinds_53_e, sp_isStrip ⟨I1.gM.1, I1.gM.2.1⟩ hi, es, b2_t h, ob]
    dsimp +instances only
    rw [if_neg (by decide), wI_of (x := (i : Int)) (by omega) (by omega), if_pos (by omega), Int.toNat_natCast]
    exact b1
  have ek : kS N i 6 = kS M i 6 := by
    funext q
    unfold kS kk
    rw [e11, k.1 12 (by decide), k.1 14 (by decide), k.1 15 (by decide), k.1 16 (by decide), k.1 17 (by decide)]
  rw [ek] at b2'
  exact st_kp I c0 k m0 (Kp.rf _) (a2.w b2')
