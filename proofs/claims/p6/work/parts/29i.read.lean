/-! A land read out of a text: both sides read it alike. -/
noncomputable def sg (s : Nat → Int) (z p : Nat) : Int := if p < z then s p else 0
noncomputable def TX (t z : Nat) (s : Nat → Int) : Prop := t < 4 ∧ z ≤ 60 ∧ ∀ j, -128 ≤ s j ∧ s j ≤ 127
theorem sg_r {t z : Nat} {s : Nat → Int} (T : TX t z s) (p : Nat) : -128 ≤ sg s z p ∧ sg s z p ≤ 127 := by
  unfold sg
  split
  · exact T.2.2 p
  · omega
theorem sg_lt {s : Nat → Int} {z p : Nat} (h : sg s z p ≠ 0) : p < z := by
  by_cases c : p < z
  · exact c
  · exact absurd (if_neg c) h
theorem sg_in {s : Nat → Int} {z p : Nat} (h : p < z) : sg s z p = s p := if_pos h
theorem sg_z {s : Nat → Int} {z p : Nat} (h : z ≤ p) : sg s z p = 0 := if_neg (by omega)
noncomputable def skp (f : Nat → Int) : Nat → Nat → Nat
  | 0, p => p
  | e + 1, p => if f p = 32 then skp f e (p + 1) else p
theorem skp_more {f : Nat → Int} : ∀ (e k p : Nat), f (p + e) ≠ 32 → skp f (e + k) p = skp f e p
  | 0, 0, p, h => rfl
  | 0, k + 1, p, h => by
    have h' : f p ≠ 32 := h
    rw [Nat.zero_add, skp, skp, if_neg h']
  | e + 1, k, p, h => by
    rw [show e + 1 + k = (e + k) + 1 by omega, skp, skp]
    by_cases c : f p = 32
    · rw [if_pos c, if_pos c, skp_more e k (p + 1) (by rw [show p + 1 + e = p + (e + 1) by omega]; exact h)]
    · rw [if_neg c, if_neg c]
theorem skp_r (f : Nat → Int) : ∀ (e p : Nat), p ≤ skp f e p ∧ skp f e p ≤ p + e
  | 0, p => ⟨Nat.le_refl _, Nat.le_refl _⟩
  | e + 1, p => by
    rw [skp]
    have := skp_r f e (p + 1)
    split <;> omega
noncomputable def sk (s : Nat → Int) (z p : Nat) : Nat := skp (sg s z) (z - p) p
theorem sk_r {s : Nat → Int} {z p : Nat} (h : p ≤ z) : p ≤ sk s z p ∧ sk s z p ≤ z := by
  have := skp_r (sg s z) (z - p) p
  unfold sk; omega
theorem sk_60 {s : Nat → Int} {z p : Nat} (h : p ≤ z) (hz : z ≤ 60) : skp (sg s z) 60 p = sk s z p := by
  have := skp_more (f := sg s z) (z - p) (60 - (z - p)) p (by rw [sg_z (by omega)]; decide)
  rw [show z - p + (60 - (z - p)) = 60 by omega] at this
  exact this
theorem up_same {M : am_M} {a j : Nat} {x : Int} (h : M a j = x) : am_up M a j x = M := by
  rw [up_row, show (fun i => if i = j then x else M a i) = M a by
    funext i
    by_cases c : i = j
    · rw [if_pos c, c, h]
    · rw [if_neg c], row_self]
theorem up_up {M : am_M} {a j : Nat} {x y : Int} : am_up (am_up M a j x) a j y = am_up M a j y := by
  rw [up_row, up_row, row_row, row_s, up_row]
  congr 1
  funext i
  by_cases c : i = j
  · rw [if_pos c, if_pos c]
  · rw [if_neg c, if_neg c, if_neg c]
/-! the class's reader at place p, with n strips read -/
noncomputable def CR (t z : Nat) (s : Nat → Int) (p n : Nat) (C : am_M) : Prop := Sh4 C ∧ C 5 t = z ∧ (∀ j, j < z → C 6 (60 * t + j) = s j) ∧ C 7 5 = t ∧ C 7 6 = p ∧ C 8 0 = n ∧ (∀ i, 0 ≤ C 9 i ∧ C 9 i ≤ 5) ∧ ∀ i, 0 ≤ C 10 i ∧ C 10 i ≤ 9
theorem CR.mv {t z : Nat} {s : Nat → Int} {p n : Nat} {C : am_M} (h : CR t z s p n C) (q : Nat) : CR t z s q n (am_up C 7 6 (q : Int)) := by
  obtain ⟨h1, h2, h3, h4, h5, h6, h7, h8⟩ := h
  unfold CR Sh4 at *
  rw [up_a (a' := 4) (by decide), up_a (a' := 5) (by decide), up_a (a' := 6) (by decide), up_a (a' := 8) (by decide), up_a (a' := 9) (by decide), up_a (a' := 10) (by decide), up_j (by decide), up_s]
  exact ⟨h1, h2, h3, h4, rfl, h6, h7, h8⟩
theorem CR.u7 {t z : Nat} {s : Nat → Int} {p n : Nat} {C : am_M} (h : CR t z s p n C) (j : Nat) (x : Int) (h5' : 5 ≠ j) (h6' : 6 ≠ j) : CR t z s p n (am_up C 7 j x) := by
  obtain ⟨h1, h2, h3, h4, h5, h6, h7, h8⟩ := h
  unfold CR Sh4 at *
  rw [up_a (a' := 4) (by decide), up_a (a' := 5) (by decide), up_a (a' := 6) (by decide), up_a (a' := 8) (by decide), up_a (a' := 9) (by decide), up_a (a' := 10) (by decide), up_j h5', up_j h6']
  exact ⟨h1, h2, h3, h4, h5, h6, h7, h8⟩
theorem CR.add {t z : Nat} {s : Nat → Int} {p n : Nat} {C : am_M} (h : CR t z s p n C) {k d : Int} (hk : 0 ≤ k ∧ k ≤ 5) (hd : 0 ≤ d ∧ d ≤ 9) : CR t z s p (n + 1) (am_up (am_up (am_up C 9 n k) 10 n d) 8 0 ((n + 1 : Nat) : Int)) := by
  obtain ⟨h1, h2, h3, h4, h5, h6, h7, h8⟩ := h
  unfold CR Sh4 at *
  rw [up_a (a' := 4) (by decide), up_a (a' := 4) (by decide), up_a (a' := 4) (by decide), up_a (a' := 5) (by decide), up_a (a' := 5) (by decide), up_a (a' := 5) (by decide), up_a (a' := 6) (by decide), up_a (a' := 6) (by decide), up_a (a' := 6) (by decide), up_a (a' := 7) (by decide), up_a (a' := 7) (by decide), up_a (a' := 7) (by decide), up_s, up_a (a' := 9) (by decide), up_a (a' := 9) (by decide), up_a (a' := 10) (a := 8) (by decide)]
  refine ⟨h1, h2, h3, h4, h5, rfl, fun i => ?_, fun i => ?_⟩
  · by_cases c : i = n
    · rw [c, up_s]; exact hk
    · rw [up_j c]; exact h7 i
  · by_cases c : i = n
    · rw [c, up_s]; exact hd
    · rw [up_j c, up_a (by decide)]; exact h8 i
theorem c_sign {t z : Nat} {s : Nat → Int} {p n : Nat} {C : am_M} (T : TX t z s) (h : CR t z s p n C) (hp : p ≤ z) : X_X5_sign_7 C = some (sg s z p, C) := by
  obtain ⟨h1, h2, h3, h4, h5, h6, h7, h8⟩ := h
  obtain ⟨t1, t2, t3⟩ := T
  rw [X_X5_sign_7, h4, h5, sp_get_4 h1 (by omega) (by unfold iR; omega), ob, Int.toNat_natCast, h2]
  dsimp only
  unfold sg
  by_cases c : p < z
  · rw [if_pos (by omega), if_pos c, show ((60 : Int) * t + p).toNat = 60 * t + p by omega, h3 p c]
  · rw [if_neg (by omega), if_neg c]
theorem lp_csk {t z : Nat} {s : Nat → Int} {n : Nat} (T : TX t z s) : ∀ (e n1 i p : Nat) (C : am_M), i + e = 60 → e < n1 → CR t z s p n C → p ≤ z → XL_X5_skipBlanks_7_1 XB_X5_skipBlanks_7_4 n1 i C = some (0, am_up C 7 6 (skp (sg s z) e p : Nat)) := by
  intro e
  induction e with
  | zero =>
    intro n1 i p C hi hn h hp
    obtain ⟨n1, rfl⟩ : ∃ m, n1 = m + 1 := ⟨n1 - 1, by omega⟩
    rw [XL_X5_skipBlanks_7_1, XB_X5_skipBlanks_7_1, wI_of (x := (i : Int)) (by omega) (by omega), if_neg (by omega), skp, up_same h.2.2.2.2.1]
    rfl
  | succ e ih =>
    intro n1 i p C hi hn h hp
    obtain ⟨n1, rfl⟩ : ∃ m, n1 = m + 1 := ⟨n1 - 1, by omega⟩
    have sr := sg_r T p
    rw [XL_X5_skipBlanks_7_1, XB_X5_skipBlanks_7_1, wI_of (x := (i : Int)) (by omega) (by omega), if_pos (by omega), c_sign T h hp, ob]
    dsimp +instances only
    rw [wI_of (x := sg s z p) (by omega) (by omega), skp]
    by_cases c : sg s z p = 32
    · have hp2 : p < z := sg_lt (s := s) (by rw [c]; decide)
      rw [if_pos c, if_pos c, h.2.2.2.2.1, show (p : Int) + 1 = ((p + 1 : Nat) : Int) by omega, show (i : Int) + 1 = ((i + 1 : Nat) : Int) by omega, ih n1 (i + 1) (p + 1) _ (by omega) (by omega) (h.mv (p + 1)) (by omega), up_up]
    · rw [if_neg c, if_neg c, up_same h.2.2.2.2.1]
      rfl
theorem c_skip {t z : Nat} {s : Nat → Int} {p n : Nat} {C : am_M} (T : TX t z s) (h : CR t z s p n C) (hp : p ≤ z) : X_X5_skipBlanks_7 C = some (0, am_up C 7 6 (sk s z p : Nat)) := by
  have := lp_csk T 60 1000 0 p C (by omega) (by omega) h hp
  rw [sk_60 hp T.2.1] at this
  rw [X_X5_skipBlanks_7, XB_X5_skipBlanks_7_e]
  exact this
noncomputable def FG (s : Nat → Int) (z p : Nat) (lo hi : Int) : Prop := 48 + lo ≤ sg s z p ∧ sg s z p ≤ 48 + hi
theorem c_fig {t z : Nat} {s : Nat → Int} {p n : Nat} {C : am_M} (T : TX t z s) (h : CR t z s p n C) (hp : p ≤ z) {lo hi hh : Int} (hl : 0 ≤ lo ∧ lo ≤ 9) (hi' : 0 ≤ hi ∧ hi ≤ 12) (e : hh = if hi < 9 then hi else 9) : (FG s z p lo hh → X_X5_readFigure_7 lo hi C = some (sg s z p - 48, am_up C 7 6 ((p + 1 : Nat) : Int))) ∧ (¬ FG s z p lo hh → X_X5_readFigure_7 lo hi C = some (-1, C)) := by
  have sr := sg_r T p
  have e2 : (hi < 9 ∧ hh = hi) ∨ (9 ≤ hi ∧ hh = 9) := by
    by_cases c : hi < 9
    · rw [if_pos c] at e; exact Or.inl ⟨c, e⟩
    · rw [if_neg c] at e; exact Or.inr ⟨by omega, e⟩
  rw [X_X5_readFigure_7, c_sign T h hp, ob]
  dsimp +instances only
  rw [wI_of (x := sg s z p) (by omega) (by omega), wI_of (x := sg s z p - 48) (by omega) (by omega), wI_of (x := lo) (by omega) (by omega), wI_of (x := hi) (by omega) (by omega), h.2.2.2.2.1]
  unfold FG
  constructor
  · intro f
    rw [if_neg (by omega), if_neg (by omega), if_neg (by omega), if_neg (by omega)]
    rfl
  · intro f
    by_cases c1 : sg s z p < 48
    · rw [if_pos c1]
    · rw [if_neg c1]
      by_cases c2 : 57 < sg s z p
      · rw [if_pos c2]
      · rw [if_neg c2]
        by_cases c3 : sg s z p - 48 < lo
        · rw [if_pos c3]
        · rw [if_neg c3, if_pos (by omega)]
noncomputable def kdc (x : Int) : Int := if x = 115 then 0 else if x = 102 then 1 else if x = 119 then 2 else if x = 114 then 3 else if x = 105 then 4 else if x = 116 then 5 else -1
theorem kdc_r (x : Int) : -1 ≤ kdc x ∧ kdc x ≤ 5 := by
  unfold kdc
  repeat' split
  all_goals omega
theorem kdc_0 {x : Int} (h : kdc x ≠ -1) : x ≠ 0 := fun e => h (by rw [e]; rfl)
theorem c_kind {x : Int} (hx : iR x) (C : am_M) : X_X5_kindOfSign x C = some (kdc x, C) := by
  unfold X_X5_kindOfSign kdc
  rw [wI_R hx]
  by_cases c : 102 ≤ x ∧ x ≤ 119
  · rcases (show x = 102 ∨ x = 103 ∨ x = 104 ∨ x = 105 ∨ x = 106 ∨ x = 107 ∨ x = 108 ∨ x = 109 ∨ x = 110 ∨ x = 111 ∨ x = 112 ∨ x = 113 ∨ x = 114 ∨ x = 115 ∨ x = 116 ∨ x = 117 ∨ x = 118 ∨ x = 119 by omega) with rfl | rfl | rfl | rfl | rfl | rfl | rfl | rfl | rfl | rfl | rfl | rfl | rfl | rfl | rfl | rfl | rfl | rfl <;> rfl
  · rw [if_neg (by omega), if_neg (by omega), if_neg (by omega), if_neg (by omega), if_neg (by omega), if_neg (by omega), if_neg (by omega), if_neg (by omega), if_neg (by omega), if_neg (by omega), if_neg (by omega), if_neg (by omega), if_neg (by omega), if_neg (by omega), if_neg (by omega), if_neg (by omega), if_neg (by omega), if_neg (by omega), if_neg (by omega), if_neg (by omega), if_neg (by omega), if_neg (by omega), if_neg (by omega), if_neg (by omega)]
/-! the model's reader -/
noncomputable def MR (t z : Nat) (s : Nat → Int) (p n : Nat) (D : am_M) : Prop := (∀ j, j < z → D 60 (60 * t + j) = s j) ∧ D 53 13 = ((60 * t : Nat) : Int) ∧ D 53 14 = p ∧ D 53 15 = z ∧ D 53 17 = n
theorem MR.mv {t z : Nat} {s : Nat → Int} {p n : Nat} {D : am_M} (h : MR t z s p n D) (q : Nat) : MR t z s q n (am_up D 53 14 (q : Int)) := by
  obtain ⟨h1, h2, h3, h4, h5⟩ := h
  unfold MR
  rw [up_a (a' := 60) (by decide), up_j (by decide), up_s, up_j (by decide), up_j (by decide)]
  exact ⟨h1, h2, rfl, h4, h5⟩
theorem MR.u {t z : Nat} {s : Nat → Int} {p n : Nat} {D : am_M} (h : MR t z s p n D) {a j : Nat} {x : Int} (ha : a = 62 ∨ a = 63) : MR t z s p n (am_up D a j x) := by
  obtain ⟨h1, h2, h3, h4, h5⟩ := h
  unfold MR
  rw [up_a (a' := 60) (by omega), up_a (a' := 53) (by omega)]
  exact ⟨h1, h2, h3, h4, h5⟩
theorem MR.n {t z : Nat} {s : Nat → Int} {p n : Nat} {D : am_M} (h : MR t z s p n D) (m : Nat) : MR t z s p m (am_up D 53 17 (m : Int)) := by
  obtain ⟨h1, h2, h3, h4, h5⟩ := h
  unfold MR
  rw [up_a (a' := 60) (by decide), up_j (by decide), up_j (by decide), up_j (by decide), up_s]
  exact ⟨h1, h2, h3, h4, rfl⟩
theorem m_here {t z : Nat} {s : Nat → Int} {p n : Nat} {D : am_M} (T : TX t z s) (h : MR t z s p n D) (hp : p < z) : X_X9_here_53 D = some (s p, D) := by
  obtain ⟨t1, t2, t3⟩ := T
  rw [X_X9_here_53, h.2.1, h.2.2.1, show ((60 * t : Nat) : Int) + (p : Int) = ((60 * t + p : Nat) : Int) by omega, wI_of (x := ((60 * t + p : Nat) : Int)) (by omega) (by omega), if_pos (by omega), Int.toNat_natCast, h.1 p hp]
theorem lp_msk {t z : Nat} {s : Nat → Int} {n : Nat} (T : TX t z s) : ∀ (e n1 p : Nat) (D : am_M), p + e = z → e < n1 → MR t z s p n D → XL_X9_skip_53_0 XB_X9_skip_53_3 n1 D = some (0, am_up D 53 14 (skp (sg s z) e p : Nat)) := by
  intro e
  have t2 := T.2.1
  induction e with
  | zero =>
    intro n1 p D hp hn h
    obtain ⟨n1, rfl⟩ : ∃ m, n1 = m + 1 := ⟨n1 - 1, by omega⟩
    rw [XL_X9_skip_53_0, XB_X9_skip_53_0, h.2.2.1, h.2.2.2.1, wI_of (x := (p : Int)) (by omega) (by omega), wI_of (x := (z : Int)) (by omega) (by omega), if_neg (by omega), skp, up_same h.2.2.1]
    rfl
  | succ e ih =>
    intro n1 p D hp hn h
    obtain ⟨n1, rfl⟩ : ∃ m, n1 = m + 1 := ⟨n1 - 1, by omega⟩
    have sr := T.2.2 p
    rw [XL_X9_skip_53_0, XB_X9_skip_53_0, h.2.2.1, h.2.2.2.1, wI_of (x := (p : Int)) (by omega) (by omega), wI_of (x := (z : Int)) (by omega) (by omega), if_pos (by omega), m_here T h (by omega), ob]
    dsimp +instances only
    rw [wI_of (x := s p) (by omega) (by omega), skp, sg_in (by omega)]
    by_cases c : s p = 32
    · rw [if_pos c, if_pos c, h.2.2.1, show (p : Int) + 1 = ((p + 1 : Nat) : Int) by omega, ih n1 (p + 1) _ (by omega) (by omega) (h.mv (p + 1)), up_up]
    · rw [if_neg c, if_neg c, up_same h.2.2.1]
      rfl
theorem m_skip {t z : Nat} {s : Nat → Int} {p n : Nat} {D : am_M} (T : TX t z s) (h : MR t z s p n D) (hp : p ≤ z) : X_X9_skip_53 D = some (0, am_up D 53 14 (sk s z p : Nat)) := by
  have := lp_msk T (z - p) (1000 + 1) p D (by omega) (by have := T.2.1; omega) h
  rw [XL_X9_skip_53_0] at this
  exact this
theorem m_fig {t z : Nat} {s : Nat → Int} {p n : Nat} {D : am_M} (T : TX t z s) (h : MR t z s p n D) (hp : p ≤ z) {lo hi : Int} (hl : 0 ≤ lo ∧ lo ≤ 9) (hi' : 0 ≤ hi ∧ hi ≤ 9) : (FG s z p lo hi → X_X9_figure_53 lo hi D = some (sg s z p - 48, am_up D 53 14 ((p + 1 : Nat) : Int))) ∧ (¬ FG s z p lo hi → X_X9_figure_53 lo hi D = some (-9, D)) := by
  have sr := T.2.2 p
  have t1 := T.1
  have t2 := T.2.1
  have hm := h.mv (p + 1)
  unfold FG
  rw [X_X9_figure_53, h.2.2.1, h.2.2.2.1, wI_of (x := (p : Int)) (by omega) (by omega), wI_of (x := (z : Int)) (by omega) (by omega)]
  by_cases c : p < z
  · rw [if_neg (by omega), m_here T h c, ob]
    dsimp +instances only
    rw [wI_of (x := s p) (by omega) (by omega), wI_of (x := 48 + lo) (by omega) (by omega), wI_of (x := 48 + hi) (by omega) (by omega), sp_in D (by unfold iR; omega) (by unfold iR; omega) (by unfold iR; omega), ob]
    dsimp +instances only
    rw [h.2.2.1, show (p : Int) + 1 = ((p + 1 : Nat) : Int) by omega, hm.2.1, hm.2.2.1, sg_in c, show ((60 * t : Nat) : Int) + ((p + 1 : Nat) : Int) - 1 = ((60 * t + p : Nat) : Int) by omega, wI_of (x := ((60 * t + p : Nat) : Int)) (by omega) (by omega), Int.toNat_natCast, hm.1 p c]
    constructor
    · intro f
      rw [b2_t f, if_neg (by decide), if_pos (by omega)]
    · intro f
      rw [b2_f f, if_pos wI_0]
  · rw [if_pos (by omega)]
    constructor
    · intro f
      rw [sg_z (by omega)] at f; omega
    · intro f; rfl
theorem m_kind {t z : Nat} {s : Nat → Int} {p n : Nat} {D : am_M} (T : TX t z s) (h : MR t z s p n D) (hp : p < z) : X_X9_kindHere_53 D = some (if kdc (s p) = -1 then -9 else kdc (s p), D) := by
  have sr := T.2.2 p
  rw [X_X9_kindHere_53, m_here T h hp, ob]
  dsimp +instances only
  rw [wI_of (x := s p) (by omega) (by omega)]
  unfold kdc
  repeat' split
  all_goals first | rfl | (exfalso; omega)
/-! one strip -/
noncomputable def sK (s : Nat → Int) (z q : Nat) : Int := kdc (sg s z q)
noncomputable def cAdd (C : am_M) (q n : Nat) (k d : Int) : am_M := am_up (am_up (am_up (am_up C 7 6 ((q + 2 : Nat) : Int)) 9 n k) 10 n d) 8 0 ((n + 1 : Nat) : Int)
theorem c_strip0 {t z : Nat} {s : Nat → Int} {q n : Nat} {C : am_M} (T : TX t z s) (h : CR t z s q n C) (hq : q ≤ z) (hn : n ≤ 12) (c : sK s z q = -1 ∨ n = 12) : X_X5_readStrip_7 C = some (0, C) := by
  have sr := sg_r T q
  have kr := kdc_r (sg s z q)
  rw [X_X5_readStrip_7, c_sign T h hq, ob]
  dsimp +instances only
  rw [c_kind (by unfold iR; omega), ob]
  dsimp +instances only
  rw [wI_of (x := kdc (sg s z q)) (by omega) (by omega)]
  by_cases c1 : sK s z q = -1
  · unfold sK at c1
    rw [if_pos (by omega)]
  · have hn2 : n = 12 := c.resolve_left c1
    unfold sK at c1
    rw [if_neg (by omega), X_X2_hasRoom_8, h.2.2.2.2.2.1, hn2, if_neg (by decide), ob]
    dsimp +instances only
    rw [if_pos wI_0]
theorem c_strip1 {t z : Nat} {s : Nat → Int} {q n : Nat} {C : am_M} (T : TX t z s) (h : CR t z s q n C) (hq : q ≤ z) (hn : n < 12) (c : sK s z q ≠ -1) : q < z ∧ (FG s z (q + 1) 0 9 → X_X5_readStrip_7 C = some (1, cAdd C q n (sK s z q) (sg s z (q + 1) - 48))) ∧ (¬ FG s z (q + 1) 0 9 → X_X5_readStrip_7 C = some (0, am_up C 7 6 ((q + 1 : Nat) : Int))) := by
  have sr := sg_r T q
  have kr := kdc_r (sg s z q)
  have hz : q < z := sg_lt (s := s) (kdc_0 c)
  have h1 := h.mv (q + 1)
  have f := c_fig T h1 (by omega) (lo := 0) (hi := 9) (hh := 9) (by decide) (by decide) (by decide)
  unfold sK at c ⊢
  have e0 : X_X5_readStrip_7 C = (X_X5_readFigure_7 0 9 (am_up C 7 6 ((q + 1 : Nat) : Int))).bind fun z4 => if wI z4.1 < 0 then some (0, z4.2) else (X_X2_add_8 (kdc (sg s z q)) z4.1 z4.2).bind fun z5 => some (1, z5.2) := by
    rw [X_X5_readStrip_7, c_sign T h hq, ob]
    dsimp +instances only
    rw [c_kind (by unfold iR; omega), ob]
    dsimp +instances only
    rw [wI_of (x := kdc (sg s z q)) (by omega) (by omega), if_neg (by omega), X_X2_hasRoom_8, h.2.2.2.2.2.1, wI_of (x := (n : Int)) (by omega) (by omega), if_pos (by omega), ob]
    dsimp +instances only
    rw [if_neg (by decide), h.2.2.2.2.1, show (q : Int) + 1 = ((q + 1 : Nat) : Int) by omega]
  refine ⟨hz, fun g => ?_, fun g => ?_⟩
  · have g2 := g
    unfold FG at g2
    rw [e0, f.1 g, ob]
    dsimp +instances only
    rw [wI_of (x := sg s z (q + 1) - 48) (by omega) (by omega), if_neg (by omega), up_up]
    have h2 := h.mv (q + 2)
    have n8 := h2.2.2.2.2.2.1
    rw [show q + 1 + 1 = q + 2 from rfl, X_X2_add_8, X_X2_hasRoom_8, n8, wI_of (x := (n : Int)) (by omega) (by omega), if_pos (by omega), ob]
    dsimp +instances only
    rw [up_a (a' := 8) (a := 9) (by decide), n8, wI_of (x := (n : Int)) (by omega) (by omega), Int.toNat_natCast, if_neg (by decide), if_pos (by omega), if_pos (by omega), up_a (a' := 8) (a := 10) (by decide), up_a (a' := 8) (a := 9) (by decide), n8, ob, show (n : Int) + 1 = ((n + 1 : Nat) : Int) by omega]
    rfl
  · rw [e0, f.2 g, ob]
    dsimp +instances only
    rw [if_pos (by decide)]
noncomputable def mAdd (D : am_M) (q n : Nat) (k d : Int) : am_M := am_up (am_up (am_up (am_up D 53 14 ((q + 2 : Nat) : Int)) 62 (2 * n) k) 62 (2 * n + 1) d) 53 17 ((n + 1 : Nat) : Int)
theorem m_strip0 {t z : Nat} {s : Nat → Int} {q n : Nat} {D : am_M} (T : TX t z s) (h : MR t z s q n D) (hq : q < z) (hn : n ≤ 12) (c : sK s z q = -1 ∨ n = 12) : X_X9_readsStrip_53 D = some (0, D) := by
  have kr := kdc_r (s q)
  unfold sK at c
  rw [sg_in hq] at c
  rw [X_X9_readsStrip_53, m_kind T h hq, ob]
  dsimp +instances only
  by_cases c1 : kdc (s q) = -1
  · rw [if_pos c1, if_pos (by decide)]
  · rw [if_neg c1, wI_of (x := kdc (s q)) (by omega) (by omega), if_neg (by omega), h.2.2.2.2, c.resolve_left c1, if_pos (by decide)]
theorem m_strip1 {t z : Nat} {s : Nat → Int} {q n : Nat} {D : am_M} (T : TX t z s) (h : MR t z s q n D) (hq : q < z) (hn : n < 12) (c : sK s z q ≠ -1) : (FG s z (q + 1) 0 9 → X_X9_readsStrip_53 D = some (1, mAdd D q n (sK s z q) (sg s z (q + 1) - 48))) ∧ (¬ FG s z (q + 1) 0 9 → X_X9_readsStrip_53 D = some (0, am_up D 53 14 ((q + 1 : Nat) : Int))) := by
  have kr := kdc_r (s q)
  have sr := sg_r T (q + 1)
  have f := m_fig T (h.mv (q + 1)) (by omega) (lo := 0) (hi := 9) (by decide) (by decide)
  have e0 : X_X9_readsStrip_53 D = (X_X9_figure_53 0 9 (am_up D 53 14 ((q + 1 : Nat) : Int))).bind fun z2 => if wI z2.1 = (-9) then some (0, z2.2) else if 0 ≤ wI (2 * (z2.2 53 17)) ∧ wI (2 * (z2.2 53 17)) < 24 then if 0 ≤ wI ((2 * ((am_up z2.2 62 (wI (2 * (z2.2 53 17))).toNat (sK s z q)) 53 17)) + 1) ∧ wI ((2 * ((am_up z2.2 62 (wI (2 * (z2.2 53 17))).toNat (sK s z q)) 53 17)) + 1) < 24 then some (1, (am_up (am_up (am_up z2.2 62 (wI (2 * (z2.2 53 17))).toNat (sK s z q)) 62 (wI ((2 * ((am_up z2.2 62 (wI (2 * (z2.2 53 17))).toNat (sK s z q)) 53 17)) + 1)).toNat z2.1) 53 17 (((am_up (am_up z2.2 62 (wI (2 * (z2.2 53 17))).toNat (sK s z q)) 62 (wI ((2 * ((am_up z2.2 62 (wI (2 * (z2.2 53 17))).toNat (sK s z q)) 53 17)) + 1)).toNat z2.1) 53 17) + 1))) else none else none := by
    unfold sK at c ⊢
    rw [sg_in hq] at c ⊢
    rw [X_X9_readsStrip_53, m_kind T h hq, ob]
    dsimp +instances only
    rw [if_neg c, wI_of (x := kdc (s q)) (by omega) (by omega), if_neg (by omega), h.2.2.2.2, wI_of (x := (n : Int)) (by omega) (by omega), if_neg (by omega), h.2.2.1, show (q : Int) + 1 = ((q + 1 : Nat) : Int) by omega]
  refine ⟨fun g => ?_, fun g => ?_⟩
  · have g2 := g
    unfold FG at g2
    rw [e0, f.1 g, ob]
    dsimp +instances only
    have n17 := ((h.mv (q + 1)).mv (q + 1 + 1)).2.2.2.2
    rw [wI_of (x := sg s z (q + 1) - 48) (by omega) (by omega), if_neg (by omega), up_a (a' := 53) (a := 62) (by decide), n17, show 2 * (n : Int) = ((2 * n : Nat) : Int) by omega, show ((2 * n : Nat) : Int) + 1 = ((2 * n + 1 : Nat) : Int) by omega, wI_of (x := ((2 * n : Nat) : Int)) (by omega) (by omega), wI_of (x := ((2 * n + 1 : Nat) : Int)) (by omega) (by omega), Int.toNat_natCast, Int.toNat_natCast, if_pos (by omega), if_pos (by omega), up_a (a' := 53) (a := 62) (by decide), up_a (a' := 53) (a := 62) (by decide), n17, show (n : Int) + 1 = ((n + 1 : Nat) : Int) by omega, up_up]
    rfl
  · rw [e0, f.2 g, ob]
    dsimp +instances only
    rw [if_pos (by decide)]
