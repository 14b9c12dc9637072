section
/-! How many rows of moves lead to a place. -/
theorem lp_fill39 (k : am_M → am_Rs) (N : am_M) (v : Int) : ∀ (e n i : Nat) (f : Nat → Int), i + e = 13 → e < n → XL_J7_fill_d0a16_39_1 k n v i 13 (am_row N 39 f) = k (am_row N 39 fun j => if i ≤ j ∧ j < 13 then v else f j) := by
  intro e
  induction e with
  | zero =>
    intro n i f hi hn
    obtain ⟨n, rfl⟩ : ∃ m, n = m + 1 := ⟨n - 1, by omega⟩
    rw [XL_J7_fill_d0a16_39_1, XB_J7_fill_d0a16_39_1, wI_of (x := (i : Int)) (by omega) (by omega), if_neg (show ¬ (i : Int) < wI 13 by rw [show wI 13 = 13 from rfl]; omega)]
    refine congrArg (fun F => k (am_row N 39 F)) (funext fun j => ?_)
    rw [if_neg (by omega)]
  | succ e ih =>
    intro n i f hi hn
    obtain ⟨n, rfl⟩ : ∃ m, n = m + 1 := ⟨n - 1, by omega⟩
    rw [XL_J7_fill_d0a16_39_1, XB_J7_fill_d0a16_39_1, wI_of (x := (i : Int)) (by omega) (by omega), if_pos (show (i : Int) < wI 13 by rw [show wI 13 = 13 from rfl]; omega), if_pos (by omega), Int.toNat_natCast, up_row, row_row, ← Int.natCast_succ, ih n (i + 1) _ (by omega) (by omega)]
    refine congrArg (fun F => k (am_row N 39 F)) (funext fun j => ?_)
    rw [row_s]
    by_cases c : j = i
    · subst c; rw [if_neg (by omega), if_pos rfl, if_pos (by omega)]
    · by_cases c2 : i + 1 ≤ j ∧ j < 13
      · rw [if_pos c2, if_pos (by omega)]
      · rw [if_neg c2, if_neg c, if_neg (by omega)]
theorem sp_fill39 (M : am_M) (v : Int) : ∃ f, X_J7_fill_d0a16_39 v M = some (0, am_row M 39 f) ∧ ∀ p : Nat, p < 13 → f p = v := by
  have := lp_fill39 XB_J7_fill_d0a16_39_3 M v 13 1000 0 (M 39) (by omega) (by omega)
  rw [row_self, show ((0 : Nat) : Int) = 0 from rfl] at this
  refine ⟨fun j => if 0 ≤ j ∧ j < 13 then v else M 39 j, ?_, fun p hp => if_pos (by omega)⟩
  rw [X_J7_fill_d0a16_39, XB_J7_fill_d0a16_39_e, this]; rfl
theorem lp_fill40 (k : am_M → am_Rs) (N : am_M) (v : Int) : ∀ (e n i : Nat) (f : Nat → Int), i + e = 13 → e < n → XL_J7_fill_d0a16_40_1 k n v i 13 (am_row N 40 f) = k (am_row N 40 fun j => if i ≤ j ∧ j < 13 then v else f j) := by
  intro e
  induction e with
  | zero =>
    intro n i f hi hn
    obtain ⟨n, rfl⟩ : ∃ m, n = m + 1 := ⟨n - 1, by omega⟩
    rw [XL_J7_fill_d0a16_40_1, XB_J7_fill_d0a16_40_1, wI_of (x := (i : Int)) (by omega) (by omega), if_neg (show ¬ (i : Int) < wI 13 by rw [show wI 13 = 13 from rfl]; omega)]
    refine congrArg (fun F => k (am_row N 40 F)) (funext fun j => ?_)
    rw [if_neg (by omega)]
  | succ e ih =>
    intro n i f hi hn
    obtain ⟨n, rfl⟩ : ∃ m, n = m + 1 := ⟨n - 1, by omega⟩
    rw [XL_J7_fill_d0a16_40_1, XB_J7_fill_d0a16_40_1, wI_of (x := (i : Int)) (by omega) (by omega), if_pos (show (i : Int) < wI 13 by rw [show wI 13 = 13 from rfl]; omega), if_pos (by omega), Int.toNat_natCast, up_row, row_row, ← Int.natCast_succ, ih n (i + 1) _ (by omega) (by omega)]
    refine congrArg (fun F => k (am_row N 40 F)) (funext fun j => ?_)
    rw [row_s]
    by_cases c : j = i
    · subst c; rw [if_neg (by omega), if_pos rfl, if_pos (by omega)]
    · by_cases c2 : i + 1 ≤ j ∧ j < 13
      · rw [if_pos c2, if_pos (by omega)]
      · rw [if_neg c2, if_neg c, if_neg (by omega)]
theorem sp_fill40 (M : am_M) (v : Int) : ∃ f, X_J7_fill_d0a16_40 v M = some (0, am_row M 40 f) ∧ ∀ p : Nat, p < 13 → f p = v := by
  have := lp_fill40 XB_J7_fill_d0a16_40_3 M v 13 1000 0 (M 40) (by omega) (by omega)
  rw [row_self, show ((0 : Nat) : Int) = 0 from rfl] at this
  refine ⟨fun j => if 0 ≤ j ∧ j < 13 then v else M 40 j, ?_, fun p hp => if_pos (by omega)⟩
  rw [X_J7_fill_d0a16_40, XB_J7_fill_d0a16_40_e, this]; rfl
theorem lp_fill42 (k : am_M → am_Rs) (N : am_M) (v : Int) : ∀ (e n i : Nat) (f : Nat → Int), i + e = 13 → e < n → XL_J7_fill_d0a16_42_1 k n v i 13 (am_row N 42 f) = k (am_row N 42 fun j => if i ≤ j ∧ j < 13 then v else f j) := by
  intro e
  induction e with
  | zero =>
    intro n i f hi hn
    obtain ⟨n, rfl⟩ : ∃ m, n = m + 1 := ⟨n - 1, by omega⟩
    rw [XL_J7_fill_d0a16_42_1, XB_J7_fill_d0a16_42_1, wI_of (x := (i : Int)) (by omega) (by omega), if_neg (show ¬ (i : Int) < wI 13 by rw [show wI 13 = 13 from rfl]; omega)]
    refine congrArg (fun F => k (am_row N 42 F)) (funext fun j => ?_)
    rw [if_neg (by omega)]
  | succ e ih =>
    intro n i f hi hn
    obtain ⟨n, rfl⟩ : ∃ m, n = m + 1 := ⟨n - 1, by omega⟩
    rw [XL_J7_fill_d0a16_42_1, XB_J7_fill_d0a16_42_1, wI_of (x := (i : Int)) (by omega) (by omega), if_pos (show (i : Int) < wI 13 by rw [show wI 13 = 13 from rfl]; omega), if_pos (by omega), Int.toNat_natCast, up_row, row_row, ← Int.natCast_succ, ih n (i + 1) _ (by omega) (by omega)]
    refine congrArg (fun F => k (am_row N 42 F)) (funext fun j => ?_)
    rw [row_s]
    by_cases c : j = i
    · subst c; rw [if_neg (by omega), if_pos rfl, if_pos (by omega)]
    · by_cases c2 : i + 1 ≤ j ∧ j < 13
      · rw [if_pos c2, if_pos (by omega)]
      · rw [if_neg c2, if_neg c, if_neg (by omega)]
theorem sp_fill42 (M : am_M) (v : Int) : ∃ f, X_J7_fill_d0a16_42 v M = some (0, am_row M 42 f) ∧ ∀ p : Nat, p < 13 → f p = v := by
  have := lp_fill42 XB_J7_fill_d0a16_42_3 M v 13 1000 0 (M 42) (by omega) (by omega)
  rw [row_self, show ((0 : Nat) : Int) = 0 from rfl] at this
  refine ⟨fun j => if 0 ≤ j ∧ j < 13 then v else M 42 j, ?_, fun p hp => if_pos (by omega)⟩
  rw [X_J7_fill_d0a16_42, XB_J7_fill_d0a16_42_e, this]; rfl
theorem lp_fill43 (k : am_M → am_Rs) (N : am_M) (v : Int) : ∀ (e n i : Nat) (f : Nat → Int), i + e = 13 → e < n → XL_J7_fill_d0a16_43_1 k n v i 13 (am_row N 43 f) = k (am_row N 43 fun j => if i ≤ j ∧ j < 13 then v else f j) := by
  intro e
  induction e with
  | zero =>
    intro n i f hi hn
    obtain ⟨n, rfl⟩ : ∃ m, n = m + 1 := ⟨n - 1, by omega⟩
    rw [XL_J7_fill_d0a16_43_1, XB_J7_fill_d0a16_43_1, wI_of (x := (i : Int)) (by omega) (by omega), if_neg (show ¬ (i : Int) < wI 13 by rw [show wI 13 = 13 from rfl]; omega)]
    refine congrArg (fun F => k (am_row N 43 F)) (funext fun j => ?_)
    rw [if_neg (by omega)]
  | succ e ih =>
    intro n i f hi hn
    obtain ⟨n, rfl⟩ : ∃ m, n = m + 1 := ⟨n - 1, by omega⟩
    rw [XL_J7_fill_d0a16_43_1, XB_J7_fill_d0a16_43_1, wI_of (x := (i : Int)) (by omega) (by omega), if_pos (show (i : Int) < wI 13 by rw [show wI 13 = 13 from rfl]; omega), if_pos (by omega), Int.toNat_natCast, up_row, row_row, ← Int.natCast_succ, ih n (i + 1) _ (by omega) (by omega)]
    refine congrArg (fun F => k (am_row N 43 F)) (funext fun j => ?_)
    rw [row_s]
    by_cases c : j = i
    · subst c; rw [if_neg (by omega), if_pos rfl, if_pos (by omega)]
    · by_cases c2 : i + 1 ≤ j ∧ j < 13
      · rw [if_pos c2, if_pos (by omega)]
      · rw [if_neg c2, if_neg c, if_neg (by omega)]
theorem sp_fill43 (M : am_M) (v : Int) : ∃ f, X_J7_fill_d0a16_43 v M = some (0, am_row M 43 f) ∧ ∀ p : Nat, p < 13 → f p = v := by
  have := lp_fill43 XB_J7_fill_d0a16_43_3 M v 13 1000 0 (M 43) (by omega) (by omega)
  rw [row_self, show ((0 : Nat) : Int) = 0 from rfl] at this
  refine ⟨fun j => if 0 ≤ j ∧ j < 13 then v else M 43 j, ?_, fun p hp => if_pos (by omega)⟩
  rw [X_J7_fill_d0a16_43, XB_J7_fill_d0a16_43_e, this]; rfl
theorem row_c {M : am_M} {a b : Nat} {f g : Nat → Int} (h : a ≠ b) : am_row (am_row M a f) b g = am_row (am_row M b g) a f := by
  funext c
  by_cases ca : c = a
  · subst ca; rw [row_a h, row_s, row_s]
  · by_cases cb : c = b
    · subst cb; rw [row_s, row_a ca, row_s]
    · rw [row_a cb, row_a ca, row_a ca, row_a cb]
/-! sums -/
theorem sf_add (a b : Nat → Int) : ∀ (d i : Nat), sf (fun j => a j + b j) i d = sf a i d + sf b i d
  | 0, _ => rfl
  | d + 1, i => by simp only [sf]; rw [sf_add a b d (i + 1)]; omega
theorem sf_mul (a : Nat → Int) (x : Int) : ∀ (d i : Nat), sf (fun j => x * a j) i d = x * sf a i d
  | 0, _ => by simp [sf]
  | d + 1, i => by simp only [sf]; rw [sf_mul a x d (i + 1), Int.mul_add]
theorem sf_zero : ∀ (d i : Nat), sf (fun _ => 0) i d = 0
  | 0, _ => rfl
  | d + 1, i => by simp only [sf]; rw [sf_zero d (i + 1)]; rfl
theorem sf_one (V : Nat → Int) (t : Nat) : ∀ (d i : Nat), sf (fun j => (if j = t then 1 else 0) * V j) i d = if i ≤ t ∧ t < i + d then V t else 0
  | 0, i => by rw [if_neg (by omega)]; rfl
  | d + 1, i => by
    simp only [sf]
    rw [sf_one V t d (i + 1)]
    by_cases c : i = t
    · subst c; rw [if_pos rfl, if_neg (by omega), if_pos (by omega), Int.one_mul, Int.add_zero]
    · rw [if_neg c, Int.zero_mul, Int.zero_add]
      by_cases c2 : i + 1 ≤ t ∧ t < i + 1 + d
      · rw [if_pos c2, if_pos (by omega)]
      · rw [if_neg c2, if_neg (by omega)]
/-- whether a move of p leads to q, as a number -/
noncomputable def mq_ (M : am_M) (p d m : Int) (q : Nat) : Int := if mv_ M p m d = -1 then 0 else if (q : Int) = p + m then 1 else 0
theorem sf_mq {M : am_M} {p d m : Int} (hm : mvs m) (hp : 0 ≤ p ∧ p ≤ M 11 0) (V : Nat → Int) (W : Int → Int) (hW : ∀ q : Nat, V q = W q) : sf (fun q => mq_ M p d m q * V q) 0 (M 11 0 + 1).toNat = if mv_ M p m d = -1 then 0 else W (p + m) := by
  by_cases c : mv_ M p m d = -1
  · rw [if_pos c]
    rw [sf_c (b := fun _ => 0) _ _ (fun q _ _ => by show mq_ M p d m q * V q = 0; unfold mq_; rw [if_pos c, Int.zero_mul]), sf_zero]
  · rw [if_neg c]
    have hb := mv_in hm hp c
    obtain ⟨t, ht⟩ := Int.eq_ofNat_of_zero_le hb.1
    rw [sf_c (b := fun j => (if j = t then 1 else 0) * V j) _ _ (fun q _ _ => by
      show mq_ M p d m q * V q = _
      unfold mq_
      rw [if_neg c, ht]
      by_cases e : q = t
      · rw [if_pos e, if_pos (by omega)]
      · rw [if_neg e, if_neg (by omega)]), sf_one, if_pos (by omega), hW, ht]
theorem c_isSlot {p : Int} (hp : 0 ≤ p ∧ p < 13) (M : am_M) : X_X4_isSlot p M = some (1, M) := by
  rw [X_X4_isSlot, wI_of (x := p) (by omega) (by omega), if_neg (by omega), if_pos (by omega)]
theorem bs_mq {M : am_M} {p d x : Int} (hx : BS x (pb_ M p d)) {q : Nat} (hq : q < 20) : wI (b_and_ (b_shr_ x q) 1) = mq_ M p d (-1) q + mq_ M p d 0 q + mq_ M p d 1 q := by
  have hg := hx.get hq
  by_cases c : pb_ M p d q
  · rw [hg.1 c]
    obtain ⟨m, rfl | rfl | rfl, h1, h2⟩ := c
    · unfold mq_
      rw [if_neg h1, if_pos h2, if_neg (show ¬ (q : Int) = p + 0 by omega), if_neg (show ¬ (q : Int) = p + 1 by omega)]
      split <;> split <;> rfl
    · unfold mq_
      rw [if_neg h1, if_pos h2, if_neg (show ¬ (q : Int) = p + -1 by omega), if_neg (show ¬ (q : Int) = p + 1 by omega)]
      split <;> split <;> rfl
    · unfold mq_
      rw [if_neg h1, if_pos h2, if_neg (show ¬ (q : Int) = p + -1 by omega), if_neg (show ¬ (q : Int) = p + 0 by omega)]
      split <;> split <;> rfl
  · rw [hg.2 c]
    have z : ∀ m, mvs m → mq_ M p d m q = 0 := fun m hm => by
      unfold mq_
      split
      · rfl
      · rename_i c1
        split
        · rename_i c2; exact absurd ⟨m, hm, c1, c2⟩ c
        · rfl
    rw [z (-1) (Or.inl rfl), z 0 (Or.inr (Or.inl rfl)), z 1 (Or.inr (Or.inr rfl))]; rfl
theorem lp_pass (k7 : am_M → am_Rs) {N : am_M} (I : Ic N) {p : Nat} (hp : (p : Int) ≤ N 11 0) (x : Int) (ch : ∀ q : Nat, q < 13 → wI (b_and_ (b_shr_ x q) 1) = 0 ∨ wI (b_and_ (b_shr_ x q) 1) = 1) : ∀ (e n i : Nat) (g : Nat → Int), (i : Int) + e = N 11 0 + 1 → e < n → XL_X4_passOn_36_1 k7 n p x i (am_row N 40 g) = k7 (am_row N 40 fun q => if i ≤ q ∧ (q : Int) ≤ N 11 0 then g q + wI (b_and_ (b_shr_ x q) 1) * N 39 p else g q) := by
  intro e
  induction e with
  | zero =>
    intro n i g hi hn
    have rs := I.rs
    obtain ⟨n, rfl⟩ : ∃ m, n = m + 1 := ⟨n - 1, by omega⟩
    rw [XL_X4_passOn_36_1, XB_X4_passOn_36_1, show (am_row N 40 g) 11 0 = N 11 0 from rfl, wI_of (x := (i : Int)) (by omega) (by omega), wI_of (x := N 11 0) (by omega) (by omega), if_pos (by omega)]
    refine congrArg (fun F => k7 (am_row N 40 F)) (funext fun j => ?_)
    rw [if_neg (by omega)]
  | succ e ih =>
    intro n i g hi hn
    have rs := I.rs
    obtain ⟨n, rfl⟩ : ∃ m, n = m + 1 := ⟨n - 1, by omega⟩
    have st : XL_X4_passOn_36_1 k7 (n + 1) p x i (am_row N 40 g) = XL_X4_passOn_36_1 k7 n p x ((i + 1 : Nat) : Int) (am_row N 40 fun q => if q = i then g q + wI (b_and_ (b_shr_ x q) 1) * N 39 p else g q) := by
      rw [XL_X4_passOn_36_1, XB_X4_passOn_36_1, show (am_row N 40 g) 11 0 = N 11 0 from rfl, wI_of (x := (i : Int)) (by omega) (by omega), wI_of (x := N 11 0) (by omega) (by omega), if_neg (by omega), c_isSlot (by omega), ob]
      dsimp +instances only
      rw [if_neg (by decide), c_isSlot (by omega), ob]
      dsimp +instances only
      rw [if_neg (by decide), wI_of (x := (p : Int)) (by omega) (by omega)]
      rcases ch i (by omega) with c | c
      · rw [if_pos c]
        rw [show (fun q => if q = i then g q + wI (b_and_ (b_shr_ x q) 1) * N 39 p else g q) = g from funext fun q => by
          by_cases e : q = i
          · subst e; rw [if_pos rfl, c, Int.zero_mul, Int.add_zero]
          · rw [if_neg e]]
        rfl
      · rw [if_neg (by rw [c]; decide), if_pos (by omega), if_pos (by omega), if_pos (by omega), Int.toNat_natCast, Int.toNat_natCast, row_s, row_a (show 39 ≠ 40 by decide), up_row, row_row, row_s]
        refine congrArg (fun F => XL_X4_passOn_36_1 k7 n p x ((i : Int) + 1) (am_row N 40 F)) (funext fun q => ?_)
        by_cases e : q = i
        · subst e; rw [if_pos rfl, if_pos rfl, c, Int.one_mul]
        · rw [if_neg e, if_neg e]
    rw [st, ih n (i + 1) _ (by push_cast; omega) (by omega)]
    refine congrArg (fun F => k7 (am_row N 40 F)) (funext fun q => ?_)
    by_cases e : q = i
    · subst e; rw [if_neg (by omega), if_pos rfl, if_pos (by omega)]
    · by_cases c2 : i + 1 ≤ q ∧ (q : Int) ≤ N 11 0
      · rw [if_pos c2, if_neg e, if_pos (by omega)]
      · rw [if_neg c2, if_neg e, if_neg (by omega)]
/-- the ways behind, weighed by the ways ahead -/
noncomputable def dot (s : Int) (a : Nat → Int) (V : Int → Int) : Int := sf (fun q => a q * V q) 0 (s + 1).toNat
theorem alg1 (g a b c A V : Int) : (g + (a + b + c) * A) * V = g * V + A * (a * V + b * V + c * V) := by
  rw [Int.add_mul, Int.mul_comm (a + b + c) A, Int.mul_assoc, Int.add_mul, Int.add_mul]
theorem sp_passOn {N : am_M} (I : Ic N) {p : Nat} (hp : (p : Int) ≤ N 11 0) {d : Int} (hd : 0 ≤ d ∧ d < 1000) (g : Nat → Int) (V : Int → Int) : ∃ g', X_X4_passOn_36 p d (am_row N 40 g) = some (0, am_row N 40 g') ∧ dot (N 11 0) g' V = dot (N 11 0) g V + N 39 p * (0 + (if mv_ N p (-1) d = -1 then 0 else V (p + -1)) + (if mv_ N p 0 d = -1 then 0 else V (p + 0)) + (if mv_ N p 1 d = -1 then 0 else V (p + 1))) := by
  have rs := I.rs
  have hp2 : 0 ≤ (p : Int) ∧ (p : Int) ≤ N 11 0 := by omega
  have B : Ic (am_row N 40 g) := Kc.ic I (Kc.row (by decide))
  obtain ⟨x, x1, x2⟩ := sp_pb B (p := (p : Int)) (d := d) hp2 hd
  have hx : BS x (pb_ N p d) := x2
  have l := lp_pass XB_X4_passOn_36_7 I hp x (fun q hq => by
    have hg := hx.get (k := q) (by omega)
    by_cases c : pb_ N p d q
    · exact Or.inr (hg.1 c)
    · exact Or.inl (hg.2 c)) (N 11 0 + 1).toNat 1000 0 g (by omega) (by omega)
  rw [show ((0 : Nat) : Int) = 0 from rfl] at l
  refine ⟨_, by rw [X_X4_passOn_36, XB_X4_passOn_36_e, x1, ob]; dsimp only; rw [l]; rfl, ?_⟩
  unfold dot
  rw [sf_c (b := fun q => g q * V q + N 39 p * (mq_ N p d (-1) q * V q + mq_ N p d 0 q * V q + mq_ N p d 1 q * V q)) _ _ (fun q _ h2 => by
    show (if 0 ≤ q ∧ (q : Int) ≤ N 11 0 then g q + wI (b_and_ (b_shr_ x q) 1) * N 39 p else g q) * V q = _
    rw [if_pos (by omega), bs_mq hx (by omega), alg1]), sf_add, sf_mul, sf_add, sf_add, sf_mq (Or.inl rfl) hp2 _ V (fun _ => rfl), sf_mq (Or.inr (Or.inl rfl)) hp2 _ V (fun _ => rfl), sf_mq (Or.inr (Or.inr rfl)) hp2 _ V (fun _ => rfl), Int.zero_add]
theorem lp_ww6 (k8 : Int → Int → Int → am_M → am_Rs) {N : am_M} (I : Ic N) (t n : Int) {k : Nat} (hk : k < 100) (V : Int → Int) : ∀ (e n1 i : Nat) (g : Nat → Int), (i : Int) + e = N 11 0 + 1 → e < n1 → ∃ g', XL_X4_waysTo_36_6 k8 n1 t n k i (am_row N 40 g) = k8 t n k (am_row N 40 g') ∧ dot (N 11 0) g' V = dot (N 11 0) g V + sf (fun p => N 39 p * (0 + (if mv_ N p (-1) (N 14 0 + k) = -1 then 0 else V (p + -1)) + (if mv_ N p 0 (N 14 0 + k) = -1 then 0 else V (p + 0)) + (if mv_ N p 1 (N 14 0 + k) = -1 then 0 else V (p + 1)))) i e := by
  intro e
  induction e with
  | zero =>
    intro n1 i g hi hn1
    have rs := I.rs
    obtain ⟨n1, rfl⟩ : ∃ m, n1 = m + 1 := ⟨n1 - 1, by omega⟩
    refine ⟨g, ?_, by simp only [sf, Int.add_zero]⟩
    rw [XL_X4_waysTo_36_6, XB_X4_waysTo_36_6, show (am_row N 40 g) 11 0 = N 11 0 from rfl, wI_of (x := (i : Int)) (by omega) (by omega), wI_of (x := N 11 0) (by omega) (by omega), if_pos (by omega)]
  | succ e ih =>
    intro n1 i g hi hn1
    have rs := I.rs
    have r0 := I.r0
    obtain ⟨n1, rfl⟩ : ∃ m, n1 = m + 1 := ⟨n1 - 1, by omega⟩
    obtain ⟨g1, a1, a2⟩ := sp_passOn I (p := i) (by omega) (d := N 14 0 + k) (by omega) g V
    obtain ⟨g', b1, b2⟩ := ih n1 (i + 1) g1 (by push_cast; omega) (by omega)
    refine ⟨g', ?_, ?_⟩
    · rw [XL_X4_waysTo_36_6, XB_X4_waysTo_36_6, show (am_row N 40 g) 11 0 = N 11 0 from rfl, show (am_row N 40 g) 14 0 = N 14 0 from rfl, wI_of (x := (i : Int)) (by omega) (by omega), wI_of (x := N 11 0) (by omega) (by omega), if_neg (by omega), a1, ob]
      exact b1
    · rw [b2, a2]
      simp only [sf]
      rw [Int.add_assoc]
theorem dot_c {s : Int} {a b : Nat → Int} {V : Int → Int} (h : ∀ q : Nat, (q : Int) ≤ s → a q = b q) : dot s a V = dot s b V := by
  unfold dot
  refine sf_c _ _ (fun q _ h2 => ?_)
  show a q * V q = b q * V q
  rw [h q (by omega)]
theorem lp_ww4 (k9 : Int → am_M → am_Rs) {M : am_M} (I : Ic M) (t : Int) {n : Nat} (hn : n ≤ 20) : ∀ (e n1 k : Nat) (a b : Nat → Int), k + e = n → e < n1 → ∃ a' b', XL_X4_waysTo_36_4 k9 n1 t n k (am_row (am_row M 39 a) 40 b) = k9 t (am_row (am_row M 39 a') 40 b') ∧ dot (M 11 0) a' (wN (mv_ M) (M 14 0) t 0 n) = dot (M 11 0) a (wN (mv_ M) (M 14 0) t (n - k) k) := by
  intro e
  induction e with
  | zero =>
    intro n1 k a b hk hn1
    obtain ⟨n1, rfl⟩ : ∃ m, n1 = m + 1 := ⟨n1 - 1, by omega⟩
    refine ⟨a, b, ?_, ?_⟩
    · rw [XL_X4_waysTo_36_4, XB_X4_waysTo_36_4, wI_of (x := (k : Int)) (by omega) (by omega), wI_of (x := (n : Int)) (by omega) (by omega), if_neg (by omega)]
    · have : k = n := by omega
      subst this
      rw [Nat.sub_self]
  | succ e ih =>
    intro n1 k a b hk hn1
    have rs := I.rs
    obtain ⟨n1, rfl⟩ : ∃ m, n1 = m + 1 := ⟨n1 - 1, by omega⟩
    obtain ⟨b0, f1, f2⟩ := sp_fill40 (am_row (am_row M 39 a) 40 b) 0
    rw [row_row] at f1
    have B : Ic (am_row M 39 a) := Kc.ic I (Kc.row (by decide))
    obtain ⟨b1, g1, g2⟩ := lp_ww6 (XB_X4_waysTo_36_8 (XL_X4_waysTo_36_4 k9 n1)) B t n (k := k) (by omega) (wN (mv_ M) (M 14 0) t (n - (k + 1)) (k + 1)) (M 11 0 + 1).toNat 1000 0 b0 (show ((0 : Nat) : Int) + _ = M 11 0 + 1 by omega) (by omega)
    have g2 : dot (M 11 0) b1 (wN (mv_ M) (M 14 0) t (n - (k + 1)) (k + 1)) = dot (M 11 0) b0 (wN (mv_ M) (M 14 0) t (n - (k + 1)) (k + 1)) + dot (M 11 0) a (wN (mv_ M) (M 14 0) t (n - k) k) := by
      rw [show n - k = (n - (k + 1)) + 1 by omega]
      have e39 : (am_row M 39 a) 39 = a := row_s
      rw [e39] at g2
      exact g2
    have z : dot (M 11 0) b0 (wN (mv_ M) (M 14 0) t (n - (k + 1)) (k + 1)) = 0 := by
      unfold dot
      rw [sf_c (b := fun _ => 0) _ _ (fun q _ h2 => by show b0 q * _ = 0; rw [f2 q (by omega), Int.zero_mul]), sf_zero]
    rw [z, Int.zero_add] at g2
    obtain ⟨a', b', h1, h2⟩ := ih n1 (k + 1) (fun j => if j < 13 then b1 j else a j) b1 (by omega) (by omega)
    refine ⟨a', b', ?_, ?_⟩
    · rw [show ((0 : Nat) : Int) = 0 from rfl] at g1
      have cp : am_cpy (am_row (am_row M 39 a) 40 b1) 40 39 0 0 13 = am_row (am_row M 39 fun j => if j < 13 then b1 j else a j) 40 b1 := by
        unfold am_cpy
        rw [row_c (M := M) (a := 39) (b := 40) (by decide), row_row, row_s, row_c (a := 40) (b := 39) (by decide), row_a (show 40 ≠ 39 by decide), row_s]
        refine congrArg (fun F => am_row (am_row M 39 F) 40 b1) (funext fun j => ?_)
        exact cpy_v
      rw [XL_X4_waysTo_36_4, XB_X4_waysTo_36_4, wI_of (x := (k : Int)) (by omega) (by omega), wI_of (x := (n : Int)) (by omega) (by omega), if_pos (by omega), f1, ob]
      dsimp only
      rw [g1, XB_X4_waysTo_36_8, cp]
      exact h1
    · rw [h2, ← g2]
      exact dot_c fun q hq => if_pos (by omega)
theorem sp_waysTo {M : am_M} (I : Ic M) {t : Nat} (ht : (t : Int) ≤ M 11 0) {n : Nat} (hn : n ≤ 20) : ∃ N1, X_X4_waysTo_36 t n M = some (wN (mv_ M) (M 14 0) t n 0 (M 14 1), N1) ∧ Kp M N1 := by
  have rs := I.rs
  have r1 := I.r1
  obtain ⟨f, f1, f2⟩ := sp_fill39 M 0
  obtain ⟨q, hq⟩ := Int.eq_ofNat_of_zero_le r1.1
  obtain ⟨a', b', h1, h2⟩ := lp_ww4 XB_X4_waysTo_36_9 I t hn n 1000 0 (fun j => if j = q then 1 else f j) (M 40) (by omega) (by omega)
  rw [show ((0 : Nat) : Int) = 0 from rfl] at h1
  have e1 : dot (M 11 0) a' (wN (mv_ M) (M 14 0) t 0 n) = a' t := by
    unfold dot
    rw [sf_c (b := fun j => (if j = t then 1 else 0) * a' j) _ _ (fun j _ _ => by
      show a' j * (if (j : Int) = (t : Int) then 1 else 0) = _
      rw [Int.mul_comm]
      by_cases c : j = t
      · rw [if_pos c, if_pos (by omega)]
      · rw [if_neg c, if_neg (by omega)]), sf_one, if_pos (by omega)]
  have e2 : dot (M 11 0) (fun j => if j = q then 1 else f j) (wN (mv_ M) (M 14 0) t (n - 0) 0) = wN (mv_ M) (M 14 0) t n 0 (M 14 1) := by
    unfold dot
    rw [sf_c (b := fun j => (if j = q then 1 else 0) * wN (mv_ M) (M 14 0) t (n - 0) 0 j) _ _ (fun j _ h => by
      show (if j = q then 1 else f j) * _ = _
      by_cases c : j = q
      · rw [if_pos c, if_pos c]
      · rw [if_neg c, if_neg c, f2 j (by omega)]), sf_one, if_pos (by omega), hq, Nat.sub_zero]
  rw [e1, e2] at h2
  refine ⟨am_row (am_row M 39 a') 40 b', ?_, (Kp.row (by decide)).tr (Kp.row (by decide))⟩
  have e3 : am_row (am_row M 39 fun j => if j = q then 1 else f j) 40 (M 40) = am_row M 39 fun j => if j = q then 1 else f j := row_self (am_row M 39 fun j => if j = q then 1 else f j) 40
  rw [e3] at h1
  rw [X_X4_waysTo_36, XB_X4_waysTo_36_e, f1, ob]
  dsimp only
  rw [c_isSlot (by omega), ob]
  dsimp +instances only
  rw [if_neg (by decide), show (am_row M 39 f) 14 1 = M 14 1 from rfl, c_isSlot (by omega), ob]
  dsimp +instances only
  rw [if_neg (by decide), show (am_row M 39 f) 14 1 = M 14 1 from rfl, hq, wI_of (x := (q : Int)) (by omega) (by omega), if_pos (by omega), Int.toNat_natCast, up_row, row_row, row_s, h1, XB_X4_waysTo_36_9, wI_of (x := (t : Int)) (by omega) (by omega), if_pos (by omega), Int.toNat_natCast, row_a (by decide), row_s, h2, hq]
/-! what is told by two numbers -/
noncomputable def cUl (u l : Int) (M : am_M) : am_M := am_up (am_up M 0 14 u) 0 15 l
noncomputable def mUl (u l : Int) (M : am_M) : am_M := am_up (am_up M 53 9 u) 53 10 l
theorem inv_u {M : am_M} (I : Inv M) (u l : Int) : Inv (mUl u l (cUl u l M)) := by
  obtain ⟨h1, h2, h3, h4, h5, h6, t1, t2, t3, t4, t5⟩ := I
  exact ⟨h1, h2, h3, h4, h5, h6, t1, t2, rfl, rfl, t5⟩
theorem cUl_a {u l : Int} {M : am_M} {c : Nat} (h : c ≠ 0) : cUl u l M c = M c := by unfold cUl; rw [up_a h, up_a h]
theorem Kb.cu (u l : Int) (M : am_M) : Kb M (cUl u l M) := ⟨fun a q => cUl_a (by omega), by rw [cUl_a (by decide)], fun j _ => by rw [cUl_a (by decide)]⟩
theorem st_told {X Y : am_M → am_Rs} {M N1 X2 : am_M} (I : Inv M) {u l : Int} (h1 : X M = some (1, cUl u l N1)) (k1 : Kp M N1) (h2 : Y (cUl u l N1) = some (1, mUl u l X2)) (k2 : Kp (cUl u l N1) X2) : Step X Y M := by
  refine ⟨_, _, _, _, h1, h2, rfl, ?_⟩
  refine Kp.inv (inv_u I u l) ⟨fun a ha => ?_, fun j hj => ?_, fun j hj => ?_⟩
  · have e1 : ∀ Z : am_M, mUl u l Z a = Z a := fun Z => by unfold mUl; rw [up_a (by omega), up_a (by omega)]
    rw [e1, e1, k2.1 a ha]
    by_cases c : a = 0
    · subst c
      have e0 : N1 0 = M 0 := k1.1 0 (by decide)
      unfold cUl
      rw [up_row, up_row, row_s, row_s, up_row, up_row, row_s, row_s, e0]
    · rw [cUl_a c, cUl_a c, k1.1 a ha]
  · unfold mUl
    by_cases c10 : j = 10
    · subst c10; rw [up_s, up_s]
    · rw [up_j c10, up_j c10]
      by_cases c9 : j = 9
      · subst c9; rw [up_s, up_s]
      · rw [up_j c9, up_j c9, k2.2.1 j hj, cUl_a (by decide), cUl_a (by decide), k1.2.1 j hj]
  · have e1 : ∀ Z : am_M, mUl u l Z 54 = Z 54 := fun Z => by unfold mUl; rw [up_a (by decide), up_a (by decide)]
    rw [e1, e1, k2.2.2 j hj, cUl_a (by decide), cUl_a (by decide), k1.2.2 j hj]
theorem sp_tell1 (u : Int) (M : am_M) : X_X8_tellChance_0 u 1 M = some (1, cUl u 1 M) := by
  have e : (am_up (am_up M 0 14 u) 0 15 1) 0 15 = 1 := up_s
  rw [X_X8_tellChance_0, XB_X8_tellChance_0_e, XL_X8_tellChance_0_1, XB_X8_tellChance_0_1, e, if_neg (by decide)]
  rfl
theorem eq_ways {M : am_M} (I : Inv M) {p n : Int} (hp : iR p) (hn : iR n) : Step (X_X8_ways_0 p n) (X_X9_ways_53 p n) M := gd_ways I hp hn fun h1 h2 h3 => by
  obtain ⟨to, rfl⟩ := Int.eq_ofNat_of_zero_le h1.1
  obtain ⟨n, rfl⟩ := Int.eq_ofNat_of_zero_le h2.1
  have rs := I.rs
  have r1 := I.r1
  obtain ⟨N1, a1, a2⟩ := sp_waysTo I.b.c h1.2 (n := n) (by omega)
  obtain ⟨w, hw⟩ : ∃ w, w = wN (mv_ M) (M 14 0) to n 0 (M 14 1) := ⟨_, rfl⟩
  rw [← hw] at a1
  have c0 : X_X8_ways_0 to n M = some (1, cUl w 1 N1) := by
    rw [X_X8_ways_0, sp_isPlace_11 I.g11 hp, b2_t h1, ob]
    dsimp +instances only
    rw [if_neg (by decide), sp_isPlan M hn, b2_t h2, ob]
    dsimp +instances only
    rw [if_neg (by decide), sp_hasNoLand I.g11, b2_f h3, ob]
    dsimp +instances only
    rw [if_pos wI_0, a1, ob]
    dsimp only
    rw [sp_tell1, ob]
  have kc : Kc M (cUl w 1 N1) := a2.b.c.tr (Kb.cu w 1 N1).c
  have e53 : (cUl w 1 N1) 53 1 = M 11 0 := by rw [kc.2.1, I.es]
  obtain ⟨g, w1, w2⟩ := sp_layWays (Kc.ic I.b.c kc) (n := n) (by omega) (to := to) (by omega)
  rw [kc.mv, kc.1 11 (by decide), kc.1 14 (by decide)] at w2
  have m0 : X_X9_ways_53 to n (cUl w 1 N1) = some (1, mUl w 1 (am_row (cUl w 1 N1) 65 g)) := by
    have e1 : (am_row (cUl w 1 N1) 65 g) 54 1 = M 14 1 := by rw [row_a (by decide), kc.2.2 1 (by decide), I.d1]
    obtain ⟨q, hq⟩ := Int.eq_ofNat_of_zero_le r1.1
    have e2 : g (M 14 1).toNat = w := by
      have := w2 0 (Nat.le_refl _) (Nat.zero_le _) q (by omega)
      rw [Nat.mul_zero, Nat.zero_add, ← hq] at this
      rw [hq, Int.toNat_natCast, this, hw]; rfl
    rw [X_X9_ways_53, sp_isPlace (by rw [e53]; exact rs) hp, e53, b2_t h1, ob]
    dsimp +instances only
    rw [if_neg (by decide), wI_R hn, sp_in _ hn i0 i20, b2_t h2, ob]
    dsimp +instances only
    rw [if_neg (by decide), e53, wI_of (x := M 11 0) (by omega) (by omega), if_neg h3, w1, ob]
    dsimp +instances only
    rw [e1, wI_of (x := M 14 1) (by omega) (by omega), if_pos (by omega), row_s, e2]
    rfl
  exact st_told I c0 a2 m0 (Kp.row (by decide))
end
section
/-! Days by chance. -/
/-- how many of the 16 pairs move, by the least difference that is needed -/
noncomputable def pw (r : Int) : Int := if r = 1 then 6 else if r = 2 then 3 else 0
theorem pw_r (r : Int) : pw r = 0 ∨ pw r = 3 ∨ pw r = 6 := by
  unfold pw
  split
  · exact Or.inr (Or.inr rfl)
  · split
    · exact Or.inr (Or.inl rfl)
    · exact Or.inl rfl
theorem c_ptm {N : am_M} (I : Ic N) {p m d : Int} (hp : 0 ≤ p ∧ p ≤ N 11 0) (hm : m = -1 ∨ m = 1) (hd : 0 ≤ d ∧ d < 1000) : X_X0_pairsThatMove_41 p m d N = some (pw (mv_ N p m d), N) := by
  rw [X_X0_pairsThatMove_41, XB_X0_pairsThatMove_41_e, kc_rud I hp (by omega) hd, ob]
  dsimp only
  rcases mv_nz (M := N) (b := p) (m := m) (d := d) (by omega) with h | h | h <;> rw [h]
  · rw [XL_X0_pairsThatMove_41_1, XB_X0_pairsThatMove_41_1, if_neg (by decide)]; rfl
  · rw [XL_X0_pairsThatMove_41_1, XB_X0_pairsThatMove_41_1, if_pos (by decide), if_neg (by decide), XL_X0_pairsThatMove_41_1, XB_X0_pairsThatMove_41_1, if_pos (by decide), if_neg (by decide), XL_X0_pairsThatMove_41_1, XB_X0_pairsThatMove_41_1, if_pos (by decide), if_neg (by decide), XL_X0_pairsThatMove_41_1, XB_X0_pairsThatMove_41_1, if_pos (by decide), if_pos (by decide)]; rfl
  · rw [XL_X0_pairsThatMove_41_1, XB_X0_pairsThatMove_41_1, if_pos (by decide), if_neg (by decide), XL_X0_pairsThatMove_41_1, XB_X0_pairsThatMove_41_1, if_pos (by decide), if_neg (by decide), XL_X0_pairsThatMove_41_1, XB_X0_pairsThatMove_41_1, if_pos (by decide), if_pos (by decide)]; rfl
/-- how many of the 16 pairs lead from p to q -/
noncomputable def ct (M : am_M) (stop d : Int) (p q : Nat) : Int := if (p : Int) = stop then (if q = p then 16 else 0) else (if (q : Int) = p - 1 then pw (mv_ M p (-1) d) else 0) + (if q = p then 16 - pw (mv_ M p (-1) d) - pw (mv_ M p 1 d) else 0) + (if q = p + 1 then pw (mv_ M p 1 d) else 0)
noncomputable def nx1 (M : am_M) (stop d : Int) (a : Nat → Int) (p : Nat) (b : Nat → Int) (q : Nat) : Int := b q + a p * ct M stop d p q
noncomputable def nxv (M : am_M) (stop d : Int) (a : Nat → Int) : Nat → Nat → (Nat → Int) → Nat → Int
  | 0, _, b => b
  | e + 1, i, b => nxv M stop d a e (i + 1) (nx1 M stop d a i b)
theorem nx1_c {M : am_M} {stop d : Int} {a a' b b' : Nat → Int} {p : Nat} (hp : p < 13) (ha : ∀ q, q < 13 → a q = a' q) (hb : ∀ q, q < 13 → b q = b' q) : ∀ q, q < 13 → nx1 M stop d a p b q = nx1 M stop d a' p b' q := fun q hq => by
  unfold nx1
  rw [ha p hp, hb q hq]
theorem nxv_c {M : am_M} {stop d : Int} {a a' : Nat → Int} (ha : ∀ q, q < 13 → a q = a' q) : ∀ (e i : Nat) (b b' : Nat → Int), i + e ≤ 13 → (∀ q, q < 13 → b q = b' q) → ∀ q, q < 13 → nxv M stop d a e i b q = nxv M stop d a' e i b' q
  | 0, _, _, _, _, hb => hb
  | e + 1, i, b, b', hi, hb => nxv_c ha e (i + 1) _ _ (by omega) (nx1_c (by omega) ha hb)
theorem nx1_k {M N : am_M} (h : mv_ N = mv_ M) (stop d : Int) (a : Nat → Int) (p : Nat) (b : Nat → Int) : nx1 N stop d a p b = nx1 M stop d a p b := by
  funext q
  unfold nx1 ct
  rw [h]
theorem nxv_k {M N : am_M} (h : mv_ N = mv_ M) (stop d : Int) (a : Nat → Int) : ∀ (e i : Nat) (b : Nat → Int), nxv N stop d a e i b = nxv M stop d a e i b
  | 0, _, _ => rfl
  | e + 1, i, b => by rw [nxv, nxv, nx1_k h, nxv_k h stop d a e (i + 1)]
theorem c_at {N : am_M} {p : Nat} (hp : p < 13) : X_X0_pairsAt_41 p N = some (N 42 p, N) := by
  rw [X_X0_pairsAt_41, wI_of (x := (p : Int)) (by omega) (by omega), if_neg (by omega), if_pos (by omega), if_pos (by omega), Int.toNat_natCast]
theorem c_bring {N : am_M} {b : Nat → Int} {q v : Int} (hq : -1 ≤ q ∧ q ≤ 13) : ∃ b', X_X0_bring_41 q v (am_row N 43 b) = some (0, am_row N 43 b') ∧ ∀ j : Nat, j < 13 → b' j = if (j : Int) = q then b j + v else b j := by
  rw [X_X0_bring_41, wI_of (x := q) (by omega) (by omega)]
  by_cases c1 : q < 0
  · rw [if_pos c1]; exact ⟨b, rfl, fun j _ => by rw [if_neg (by omega)]⟩
  · rw [if_neg c1]
    by_cases c2 : q < 13
    · obtain ⟨t, rfl⟩ := Int.eq_ofNat_of_zero_le (show 0 ≤ q by omega)
      rw [if_pos c2, if_pos (by omega), if_pos (by omega), Int.toNat_natCast, up_row, row_row, row_s]
      refine ⟨_, rfl, fun j _ => ?_⟩
      by_cases e : j = t
      · subst e; rw [if_pos rfl, if_pos rfl]
      · rw [if_neg e, if_neg (by omega)]
    · rw [if_neg c2]; exact ⟨b, rfl, fun j _ => by rw [if_neg (by omega)]⟩
theorem c_go1 (k9 : am_M → am_Rs) {N : am_M} (I : Ic N) {stop d : Int} (hst : -1 ≤ stop ∧ stop ≤ 12) (hd : 0 ≤ d ∧ d < 1000) {p : Nat} (hp : (p : Int) ≤ N 11 0) (b : Nat → Int) (n : Nat) : ∃ b', XL_X0_goOn_41_1 k9 (n + 1) d stop p (am_row N 43 b) = XL_X0_goOn_41_1 k9 n d stop ((p + 1 : Nat) : Int) (am_row N 43 b') ∧ ∀ q, q < 13 → b' q = nx1 N stop d (N 42) p b q := by
  have rs := I.rs
  have hp2 : 0 ≤ (p : Int) ∧ (p : Int) ≤ N 11 0 := by omega
  have at_ : ∀ f : Nat → Int, X_X0_pairsAt_41 p (am_row N 43 f) = some (N 42 p, am_row N 43 f) := fun f => c_at (by omega)
  have tw : X_X0_pairsThatMove_41 p (-1) d (am_row N 43 b) = some (pw (mv_ N p (-1) d), am_row N 43 b) := c_ptm (Kc.ic I (Kc.row (by decide))) hp2 (Or.inl rfl) hd
  have te : X_X0_pairsThatMove_41 p 1 d (am_row N 43 b) = some (pw (mv_ N p 1 d), am_row N 43 b) := c_ptm (Kc.ic I (Kc.row (by decide))) hp2 (Or.inr rfl) hd
  have w1 := pw_r (mv_ N p (-1) d)
  have w2 := pw_r (mv_ N p 1 d)
  by_cases c : (p : Int) = stop
  · obtain ⟨b1, x1, y1⟩ := c_bring (N := N) (b := b) (q := (p : Int) - 1) (v := 0 * N 42 p) (by omega)
    obtain ⟨b2', x2, y2⟩ := c_bring (N := N) (b := b1) (q := (p : Int)) (v := wI (16 - 0 - 0) * N 42 p) (by omega)
    obtain ⟨b3, x3, y3⟩ := c_bring (N := N) (b := b2') (q := (p : Int) + 1) (v := 0 * N 42 p) (by omega)
    refine ⟨b3, ?_, fun q hq => ?_⟩
    · rw [XL_X0_goOn_41_1, XB_X0_goOn_41_1, show (am_row N 43 b) 11 0 = N 11 0 from rfl, wI_of (x := (p : Int)) (by omega) (by omega), wI_of (x := N 11 0) (by omega) (by omega), wI_of (x := stop) (by omega) (by omega), if_neg (by omega), if_pos c, if_pos c, at_, ob]
      dsimp only
      rw [x1, ob]
      dsimp only
      rw [at_, ob]
      dsimp only
      rw [x2, ob]
      dsimp only
      rw [at_, ob]
      dsimp only
      rw [x3, ob, Int.natCast_succ]
    · rw [y3 q hq, y2 q hq, y1 q hq]
      unfold nx1 ct
      rw [if_pos c, Int.zero_mul, Int.add_zero, Int.add_zero, ite_self, show wI (16 - 0 - 0) = 16 from rfl]
      by_cases e : q = p
      · subst e; rw [if_pos rfl, ite_self, if_pos rfl, Int.mul_comm]
      · rw [if_neg (show ¬ (q : Int) = (p : Int) by omega), if_neg e, Int.mul_zero, Int.add_zero, ite_self]
  · have e16 : ∀ _ : Unit, wI (16 - pw (mv_ N p (-1) d) - pw (mv_ N p 1 d)) = 16 - pw (mv_ N p (-1) d) - pw (mv_ N p 1 d) := fun _ => wI_of (by omega) (by omega)
    have eW : ∀ _ : Unit, wI (pw (mv_ N p (-1) d)) = pw (mv_ N p (-1) d) := fun _ => wI_of (by omega) (by omega)
    have eE : ∀ _ : Unit, wI (pw (mv_ N p 1 d)) = pw (mv_ N p 1 d) := fun _ => wI_of (by omega) (by omega)
    obtain ⟨b1, x1, y1⟩ := c_bring (N := N) (b := b) (q := (p : Int) - 1) (v := pw (mv_ N p (-1) d) * N 42 p) (by omega)
    obtain ⟨b2', x2, y2⟩ := c_bring (N := N) (b := b1) (q := (p : Int)) (v := (16 - pw (mv_ N p (-1) d) - pw (mv_ N p 1 d)) * N 42 p) (by omega)
    obtain ⟨b3, x3, y3⟩ := c_bring (N := N) (b := b2') (q := (p : Int) + 1) (v := pw (mv_ N p 1 d) * N 42 p) (by omega)
    refine ⟨b3, ?_, fun q hq => ?_⟩
    · rw [XL_X0_goOn_41_1, XB_X0_goOn_41_1, show (am_row N 43 b) 11 0 = N 11 0 from rfl, wI_of (x := (p : Int)) (by omega) (by omega), wI_of (x := N 11 0) (by omega) (by omega), wI_of (x := stop) (by omega) (by omega), if_neg (by omega), if_neg c, tw, ob]
      dsimp +instances only
      rw [if_neg c, te, ob]
      dsimp only
      rw [at_, ob]
      dsimp only
      rw [eW (), x1, ob]
      dsimp only
      rw [at_, ob]
      dsimp only
      rw [e16 (), x2, ob]
      dsimp only
      rw [at_, ob]
      dsimp only
      rw [eE (), x3, ob, Int.natCast_succ]
    · rw [y3 q hq, y2 q hq, y1 q hq]
      unfold nx1 ct
      rw [if_neg c]
      generalize pw (mv_ N p (-1) d) = w
      generalize pw (mv_ N p 1 d) = e
      generalize N 42 p = A
      by_cases e1 : (q : Int) = p - 1
      · rw [if_neg (by omega), if_neg (by omega), if_pos e1, if_pos e1, if_neg (by omega), if_neg (by omega), Int.add_zero, Int.add_zero, Int.mul_comm]
      · by_cases e2 : q = p
        · subst e2
          rw [if_neg (by omega), if_pos rfl, if_neg e1, if_neg e1, if_pos rfl, if_neg (by omega), Int.zero_add, Int.add_zero, Int.mul_comm]
        · by_cases e3 : q = p + 1
          · rw [if_pos (by omega), if_neg (by omega), if_neg e1, if_neg e1, if_neg e2, if_pos e3, Int.zero_add, Int.zero_add, Int.mul_comm]
          · rw [if_neg (by omega), if_neg (by omega), if_neg e1, if_neg e1, if_neg e2, if_neg e3, Int.zero_add, Int.zero_add, Int.mul_zero, Int.add_zero]
theorem lp_goC (k9 : am_M → am_Rs) {N : am_M} (I : Ic N) {stop d : Int} (hst : -1 ≤ stop ∧ stop ≤ 12) (hd : 0 ≤ d ∧ d < 1000) : ∀ (e n i : Nat) (b : Nat → Int), (i : Int) + e = N 11 0 + 1 → e < n → ∃ b', XL_X0_goOn_41_1 k9 n d stop i (am_row N 43 b) = k9 (am_row N 43 b') ∧ ∀ q, q < 13 → b' q = nxv N stop d (N 42) e i b q := by
  intro e
  induction e with
  | zero =>
    intro n i b hi hn
    have rs := I.rs
    obtain ⟨n, rfl⟩ : ∃ m, n = m + 1 := ⟨n - 1, by omega⟩
    refine ⟨b, ?_, fun q _ => rfl⟩
    rw [XL_X0_goOn_41_1, XB_X0_goOn_41_1, show (am_row N 43 b) 11 0 = N 11 0 from rfl, wI_of (x := (i : Int)) (by omega) (by omega), wI_of (x := N 11 0) (by omega) (by omega), if_pos (by omega)]
  | succ e ih =>
    intro n i b hi hn
    have rs := I.rs
    obtain ⟨n, rfl⟩ : ∃ m, n = m + 1 := ⟨n - 1, by omega⟩
    obtain ⟨b1, x1, y1⟩ := c_go1 k9 I hst hd (p := i) (by omega) b n
    obtain ⟨b', x2, y2⟩ := ih n (i + 1) b1 (by push_cast; omega) (by omega)
    refine ⟨b', x1.trans x2, fun q hq => ?_⟩
    rw [y2 q hq]
    exact nxv_c (fun _ _ => rfl) e (i + 1) _ _ (by omega) y1 q hq
/-- a day by chance of the class -/
theorem sp_goC {M : am_M} (I : Ic M) {stop d : Int} (hst : -1 ≤ stop ∧ stop ≤ 12) (hd : 0 ≤ d ∧ d < 1000) (a b : Nat → Int) : ∃ a' b', X_X0_goOn_41 d stop (am_row (am_row M 42 a) 43 b) = some (0, am_row (am_row M 42 a') 43 b') ∧ ∀ q, q < 13 → a' q = nxv M stop d a (M 11 0 + 1).toNat 0 (fun _ => 0) q := by
  have rs := I.rs
  obtain ⟨b0, f1, f2⟩ := sp_fill43 (am_row (am_row M 42 a) 43 b) 0
  rw [row_row] at f1
  have B : Ic (am_row M 42 a) := Kc.ic I (Kc.row (by decide))
  obtain ⟨b1, g1, g2⟩ := lp_goC XB_X0_goOn_41_9 B hst hd (M 11 0 + 1).toNat 1000 0 b0 (show ((0 : Nat) : Int) + _ = M 11 0 + 1 by omega) (by omega)
  rw [show ((0 : Nat) : Int) = 0 from rfl] at g1
  have cp : am_cpy (am_row (am_row M 42 a) 43 b1) 43 42 0 0 13 = am_row (am_row M 42 fun j => if j < 13 then b1 j else a j) 43 b1 := by
    unfold am_cpy
    rw [row_c (M := M) (a := 42) (b := 43) (by decide), row_row, row_s, row_c (a := 43) (b := 42) (by decide), row_a (show 43 ≠ 42 by decide), row_s]
    refine congrArg (fun F => am_row (am_row M 42 F) 43 b1) (funext fun j => ?_)
    exact cpy_v
  refine ⟨fun j => if j < 13 then b1 j else a j, b1, ?_, fun q hq => ?_⟩
  · rw [X_X0_goOn_41, XB_X0_goOn_41_e, f1, ob]
    dsimp only
    rw [g1, XB_X0_goOn_41_9, cp]
  · show (if q < 13 then b1 q else a q) = _
    rw [if_pos hq, g2 q hq]
    have e42 : (am_row M 42 a) 42 = a := row_s
    rw [e42, nxv_k (M := M) (N := am_row M 42 a) rfl]
    exact nxv_c (M := M) (fun _ _ => rfl) (M 11 0 + 1).toNat 0 b0 (fun _ => 0) (by omega) f2 q hq
/-- where the border may be, by how many pairs, behind k days -/
noncomputable def fv (M : am_M) (stop : Int) : Nat → Nat → Int
  | 0, q => if (q : Int) = M 14 1 then 1 else 0
  | k + 1, q => nxv M stop (M 14 0 + k) (fv M stop k) (M 11 0 + 1).toNat 0 (fun _ => 0) q
theorem ct_r (M : am_M) (stop d : Int) (p q : Nat) : 0 ≤ ct M stop d p q ∧ ct M stop d p q ≤ 16 := by
  have w1 := pw_r (mv_ M p (-1) d)
  have w2 := pw_r (mv_ M p 1 d)
  unfold ct
  generalize pw (mv_ M p (-1) d) = w at w1 ⊢
  generalize pw (mv_ M p 1 d) = e at w2 ⊢
  by_cases c : (p : Int) = stop
  · rw [if_pos c]; split <;> omega
  · rw [if_neg c]
    by_cases e1 : (q : Int) = p - 1
    · rw [if_pos e1, if_neg (by omega), if_neg (by omega)]; omega
    · by_cases e2 : q = p
      · rw [if_neg e1, if_pos e2, if_neg (by omega)]; omega
      · by_cases e3 : q = p + 1
        · rw [if_neg e1, if_neg e2, if_pos e3]; omega
        · rw [if_neg e1, if_neg e2, if_neg e3]; omega
theorem nxv_r {M : am_M} {stop d : Int} {a : Nat → Int} {B : Int} (ha : ∀ p, p < 13 → 0 ≤ a p ∧ a p ≤ B) : ∀ (e i : Nat) (b : Nat → Int) (T : Int), i + e ≤ 13 → (∀ q, q < 13 → 0 ≤ b q ∧ b q ≤ T) → ∀ q, q < 13 → 0 ≤ nxv M stop d a e i b q ∧ nxv M stop d a e i b q ≤ T + 16 * B * e
  | 0, i, b, T, _, hb => fun q hq => by have := hb q hq; show 0 ≤ b q ∧ b q ≤ T + 16 * B * (0 : Nat); omega
  | e + 1, i, b, T, hi, hb => fun q hq => by
    have h := nxv_r (M := M) (stop := stop) (d := d) ha e (i + 1) (nx1 M stop d a i b) (T + 16 * B) (by omega) (fun q hq => by
      have h1 := hb q hq
      have h2 := ha i (by omega)
      have h3 := ct_r M stop d i q
      unfold nx1
      have h4 : 0 ≤ a i * ct M stop d i q := Int.mul_nonneg h2.1 h3.1
      have h5 : a i * ct M stop d i q ≤ B * 16 := Int.le_trans (Int.mul_le_mul_of_nonneg_right h2.2 h3.1) (Int.mul_le_mul_of_nonneg_left h3.2 (by omega))
      omega) q hq
    have e1 : T + 16 * B + 16 * B * e = T + 16 * B * ((e + 1 : Nat) : Int) := by rw [Int.natCast_succ, Int.mul_add]; omega
    rw [e1] at h
    exact h
theorem fv_r {M : am_M} (I : Ic M) (stop : Int) : ∀ (k q : Nat), q < 13 → 0 ≤ fv M stop k q ∧ fv M stop k q ≤ 208 ^ k
  | 0, q, _ => by unfold fv; split <;> decide
  | k + 1, q, hq => by
    have rs := I.rs
    have h := nxv_r (M := M) (stop := stop) (d := M 14 0 + k) (a := fv M stop k) (B := 208 ^ k) (fun p hp => fv_r I stop k p hp) (M 11 0 + 1).toNat 0 (fun _ => 0) 0 (by omega) (fun _ _ => by decide) q hq
    have hb : (0 : Int) ≤ 208 ^ k := by have := fv_r I stop k q hq; omega
    unfold fv
    refine ⟨h.1, Int.le_trans h.2 ?_⟩
    rw [Int.pow_succ, Int.zero_add, Int.mul_comm 16, Int.mul_assoc]
    exact Int.mul_le_mul_of_nonneg_left (by omega) hb
theorem lp_endC (k3 : Int → am_M → am_Rs) {M : am_M} (I : Ic M) (t : Int) {n : Nat} (hn : n ≤ 6) : ∀ (e n1 k : Nat) (a b : Nat → Int), k + e = n → e < n1 → (∀ q, q < 13 → a q = fv M (-1) k q) → ∃ a' b', XL_X0_pairsEndingAt_41_1 k3 n1 t n k (am_row (am_row M 42 a) 43 b) = k3 t (am_row (am_row M 42 a') 43 b') ∧ ∀ q, q < 13 → a' q = fv M (-1) n q := by
  intro e
  induction e with
  | zero =>
    intro n1 k a b hk hn1 ha
    obtain ⟨n1, rfl⟩ : ∃ m, n1 = m + 1 := ⟨n1 - 1, by omega⟩
    refine ⟨a, b, ?_, by rw [← hk, Nat.add_zero]; exact ha⟩
    rw [XL_X0_pairsEndingAt_41_1, XB_X0_pairsEndingAt_41_1, wI_of (x := (k : Int)) (by omega) (by omega), wI_of (x := (n : Int)) (by omega) (by omega), if_neg (by omega)]
  | succ e ih =>
    intro n1 k a b hk hn1 ha
    have r0 := I.r0
    have rs := I.rs
    obtain ⟨n1, rfl⟩ : ∃ m, n1 = m + 1 := ⟨n1 - 1, by omega⟩
    obtain ⟨a1, b1, g1, g2⟩ := sp_goC I (stop := -1) (d := M 14 0 + k) (by decide) (by omega) a b
    obtain ⟨a', b', h1, h2⟩ := ih n1 (k + 1) a1 b1 (by omega) (by omega) (fun q hq => by rw [g2 q hq]; exact nxv_c ha (M 11 0 + 1).toNat 0 _ _ (by omega) (fun _ _ => rfl) q hq)
    refine ⟨a', b', ?_, h2⟩
    rw [XL_X0_pairsEndingAt_41_1, XB_X0_pairsEndingAt_41_1, wI_of (x := (k : Int)) (by omega) (by omega), wI_of (x := (n : Int)) (by omega) (by omega), if_pos (by omega), show (am_row (am_row M 42 a) 43 b) 14 0 = M 14 0 from rfl, g1, ob]
    exact h1
theorem lp_metC (k3 : Int → am_M → am_Rs) {M : am_M} (I : Ic M) {t : Int} (ht : 0 ≤ t ∧ t ≤ 12) {n : Nat} (hn : n ≤ 6) : ∀ (e n1 k : Nat) (a b : Nat → Int), k + e = n → e < n1 → (∀ q, q < 13 → a q = fv M t k q) → ∃ a' b', XL_X0_pairsMeeting_41_1 k3 n1 t n k (am_row (am_row M 42 a) 43 b) = k3 t (am_row (am_row M 42 a') 43 b') ∧ ∀ q, q < 13 → a' q = fv M t n q := by
  intro e
  induction e with
  | zero =>
    intro n1 k a b hk hn1 ha
    obtain ⟨n1, rfl⟩ : ∃ m, n1 = m + 1 := ⟨n1 - 1, by omega⟩
    refine ⟨a, b, ?_, by rw [← hk, Nat.add_zero]; exact ha⟩
    rw [XL_X0_pairsMeeting_41_1, XB_X0_pairsMeeting_41_1, wI_of (x := (k : Int)) (by omega) (by omega), wI_of (x := (n : Int)) (by omega) (by omega), if_neg (by omega)]
  | succ e ih =>
    intro n1 k a b hk hn1 ha
    have r0 := I.r0
    have rs := I.rs
    obtain ⟨n1, rfl⟩ : ∃ m, n1 = m + 1 := ⟨n1 - 1, by omega⟩
    obtain ⟨a1, b1, g1, g2⟩ := sp_goC I (stop := t) (d := M 14 0 + k) (by omega) (by omega) a b
    obtain ⟨a', b', h1, h2⟩ := ih n1 (k + 1) a1 b1 (by omega) (by omega) (fun q hq => by rw [g2 q hq]; exact nxv_c ha (M 11 0 + 1).toNat 0 _ _ (by omega) (fun _ _ => rfl) q hq)
    refine ⟨a', b', ?_, h2⟩
    rw [XL_X0_pairsMeeting_41_1, XB_X0_pairsMeeting_41_1, wI_of (x := (k : Int)) (by omega) (by omega), wI_of (x := (n : Int)) (by omega) (by omega), if_pos (by omega), show (am_row (am_row M 42 a) 43 b) 14 0 = M 14 0 from rfl, g1, ob]
    exact h1
theorem sp_begin {M : am_M} (I : Ic M) (stop : Int) : ∃ a, X_X0_begin_41 M = some (0, am_row M 42 a) ∧ ∀ q, q < 13 → a q = fv M stop 0 q := by
  have r1 := I.r1
  have rs := I.rs
  obtain ⟨f, f1, f2⟩ := sp_fill42 M 0
  obtain ⟨t, ht⟩ := Int.eq_ofNat_of_zero_le r1.1
  refine ⟨fun j => if j = t then 1 else f j, ?_, fun q hq => ?_⟩
  · rw [X_X0_begin_41, f1, ob]
    dsimp +instances only
    rw [show (am_row M 42 f) 14 1 = M 14 1 from rfl, ht, wI_of (x := (t : Int)) (by omega) (by omega), if_neg (by omega), if_pos (by omega), if_pos (by omega), Int.toNat_natCast, up_row, row_row, row_s]
  · show (if q = t then 1 else f q) = if (q : Int) = M 14 1 then 1 else 0
    by_cases c : q = t
    · rw [if_pos c, if_pos (by omega)]
    · rw [if_neg c, if_neg (by omega), f2 q hq]
theorem sp_ending {M : am_M} (I : Ic M) {t : Nat} (ht : t < 13) {n : Nat} (hn : n ≤ 6) : ∃ N, X_X0_pairsEndingAt_41 t n M = some (fv M (-1) n t, N) ∧ Kp M N := by
  obtain ⟨a, a1, a2⟩ := sp_begin I (-1)
  obtain ⟨a', b', h1, h2⟩ := lp_endC XB_X0_pairsEndingAt_41_3 I t hn n 1000 0 a (M 43) (by omega) (by omega) a2
  rw [show am_row (am_row M 42 a) 43 (M 43) = am_row M 42 a from row_self (am_row M 42 a) 43, show ((0 : Nat) : Int) = 0 from rfl] at h1
  refine ⟨am_row (am_row M 42 a') 43 b', ?_, (Kp.row (by decide)).tr (Kp.row (by decide))⟩
  rw [X_X0_pairsEndingAt_41, XB_X0_pairsEndingAt_41_e, a1, ob]
  dsimp only
  rw [h1, XB_X0_pairsEndingAt_41_3, c_at ht, ob, row_a (by decide), row_s, h2 t ht]
theorem sp_meeting {M : am_M} (I : Ic M) {t : Nat} (ht : t < 13) {n : Nat} (hn : n ≤ 6) : ∃ N, X_X0_pairsMeeting_41 t n M = some (fv M t n t, N) ∧ Kp M N := by
  obtain ⟨a, a1, a2⟩ := sp_begin I t
  obtain ⟨a', b', h1, h2⟩ := lp_metC XB_X0_pairsMeeting_41_3 I (t := t) (by omega) hn n 1000 0 a (M 43) (by omega) (by omega) a2
  rw [show am_row (am_row M 42 a) 43 (M 43) = am_row M 42 a from row_self (am_row M 42 a) 43, show ((0 : Nat) : Int) = 0 from rfl] at h1
  refine ⟨am_row (am_row M 42 a') 43 b', ?_, (Kp.row (by decide)).tr (Kp.row (by decide))⟩
  rw [X_X0_pairsMeeting_41, XB_X0_pairsMeeting_41_e, a1, ob]
  dsimp only
  rw [h1, XB_X0_pairsMeeting_41_3, c_at ht, ob, row_a (by decide), row_s, h2 t ht]
/-! the mean of what a strip pays -/
noncomputable def tx (d : Int) (D : Int → Int) (q : Int) : Int := if d % 10 = 9 ∧ d < 40 then D q else 0
noncomputable def pv (M : am_M) (D : Int → Int) : Nat → Int
  | 0 => 0
  | k + 1 => pv M D k * 16 + dot (M 11 0) (fv M (-1) (k + 1)) (tx (M 14 0 + k) D)
theorem lp_duesNow (k3 : Int → am_M → am_Rs) {N : am_M} (I : Ic N) {i : Int} (hi : 0 ≤ i ∧ i < N 11 0) : ∀ (e n q : Nat) (acc : Int), (q : Int) + e = N 11 0 + 1 → e < n → XL_X0_duesNow_41_1 k3 n i acc q N = k3 (acc + sf (fun q => N 42 q * db_ N i q) q e) N := by
  intro e
  induction e with
  | zero =>
    intro n q acc hq hn
    have rs := I.rs
    obtain ⟨n, rfl⟩ : ∃ m, n = m + 1 := ⟨n - 1, by omega⟩
    rw [XL_X0_duesNow_41_1, XB_X0_duesNow_41_1, wI_of (x := (q : Int)) (by omega) (by omega), wI_of (x := N 11 0) (by omega) (by omega), if_pos (by omega)]
    simp only [sf, Int.add_zero]
  | succ e ih =>
    intro n q acc hq hn
    have rs := I.rs
    obtain ⟨n, rfl⟩ : ∃ m, n = m + 1 := ⟨n - 1, by omega⟩
    have hw : wI (du_ N 0 i q + du_ N 1 i q) = db_ N i q := by
      have h1 := kdu_r I 0 i q
      have h2 := kdu_r I 1 i q
      unfold db_
      generalize du_ N 0 i q = x at h1 ⊢
      generalize du_ N 1 i q = y at h2 ⊢
      exact wI_of (by omega) (by omega)
    have ih := ih n (q + 1) (acc + N 42 q * db_ N i q) (by push_cast; omega) (by omega)
    rw [XL_X0_duesNow_41_1, XB_X0_duesNow_41_1, wI_of (x := (q : Int)) (by omega) (by omega), wI_of (x := N 11 0) (by omega) (by omega), if_neg (by omega), c_at (by omega), ob]
    dsimp only
    rw [kc_both I hi (by omega), ob]
    dsimp only
    rw [hw]
    simp only [sf]
    rw [← Int.add_assoc]
    exact ih
theorem lp_duesOf (k5 : Int → am_M → am_Rs) {M : am_M} (I : Ic M) {i : Int} (hi : 0 ≤ i ∧ i < M 11 0) {n : Nat} (hn : n ≤ 6) : ∀ (e n1 k : Nat) (a b : Nat → Int), k + e = n → e < n1 → (∀ q, q < 13 → a q = fv M (-1) k q) → ∃ a' b', XL_X0_duesOf_41_1 k5 n1 i n (pv M (db_ M i) k) k (am_row (am_row M 42 a) 43 b) = k5 (pv M (db_ M i) n) (am_row (am_row M 42 a') 43 b') := by
  intro e
  induction e with
  | zero =>
    intro n1 k a b hk hn1 ha
    obtain ⟨n1, rfl⟩ : ∃ m, n1 = m + 1 := ⟨n1 - 1, by omega⟩
    refine ⟨a, b, ?_⟩
    rw [XL_X0_duesOf_41_1, XB_X0_duesOf_41_1, wI_of (x := (k : Int)) (by omega) (by omega), wI_of (x := (n : Int)) (by omega) (by omega), if_neg (by omega), show k = n by omega]
  | succ e ih =>
    intro n1 k a b hk hn1 ha
    have r0 := I.r0
    have rs := I.rs
    obtain ⟨n1, rfl⟩ : ∃ m, n1 = m + 1 := ⟨n1 - 1, by omega⟩
    obtain ⟨a1, b1, g1, g2⟩ := sp_goC I (stop := -1) (d := M 14 0 + k) (by decide) (by omega) a b
    have ha1 : ∀ q, q < 13 → a1 q = fv M (-1) (k + 1) q := fun q hq => by rw [g2 q hq]; exact nxv_c ha (M 11 0 + 1).toNat 0 _ _ (by omega) (fun _ _ => rfl) q hq
    obtain ⟨a', b', h1⟩ := ih n1 (k + 1) a1 b1 (by omega) (by omega) ha1
    refine ⟨a', b', ?_⟩
    have B : Ic (am_row (am_row M 42 a1) 43 b1) := Kc.ic I ((Kc.row (by decide)).tr (Kc.row (by decide)))
    have st : XL_X0_duesOf_41_1 k5 (n1 + 1) i n (pv M (db_ M i) k) k (am_row (am_row M 42 a) 43 b) = XL_X0_duesOf_41_1 k5 n1 i n (pv M (db_ M i) (k + 1)) ((k + 1 : Nat) : Int) (am_row (am_row M 42 a1) 43 b1) := by
      rw [XL_X0_duesOf_41_1, XB_X0_duesOf_41_1, wI_of (x := (k : Int)) (by omega) (by omega), wI_of (x := (n : Int)) (by omega) (by omega), if_pos (by omega), show (am_row (am_row M 42 a) 43 b) 14 0 = M 14 0 from rfl, g1, ob]
      dsimp only
      rw [show (am_row (am_row M 42 a1) 43 b1) 14 0 = M 14 0 from rfl, c_tax (by omega), ob]
      dsimp +instances only
      rw [pv]
      by_cases c : (M 14 0 + k) % 10 = 9 ∧ M 14 0 + k < 40
      · have l := lp_duesNow XB_X0_duesNow_41_3 B (i := i) hi (M 11 0 + 1).toNat 1000 0 0 (show ((0 : Nat) : Int) + _ = M 11 0 + 1 by omega) (by omega)
        rw [show ((0 : Nat) : Int) = 0 from rfl, Int.zero_add] at l
        rw [if_neg (show ¬ wI (b2 ((M 14 0 + k) % 10 = 9 ∧ M 14 0 + k < 40)) = 0 by rw [b2_t c]; decide), X_X0_duesNow_41, XB_X0_duesNow_41_e, l, XB_X0_duesNow_41_3, ob]
        dsimp only
        rw [← Int.natCast_succ]
        refine congrArg (fun F => XL_X0_duesOf_41_1 k5 n1 i n (pv M (db_ M i) k * 16 + F) ((k + 1 : Nat) : Int) (am_row (am_row M 42 a1) 43 b1)) ?_
        unfold dot
        refine sf_c _ _ (fun q _ hq => ?_)
        show (am_row (am_row M 42 a1) 43 b1) 42 q * db_ M i q = fv M (-1) (k + 1) q * tx (M 14 0 + k) (db_ M i) q
        rw [row_a (by decide), row_s, ha1 q (by omega)]
        unfold tx
        rw [if_pos c]
      · rw [if_pos (show wI (b2 ((M 14 0 + k) % 10 = 9 ∧ M 14 0 + k < 40)) = 0 by rw [b2_f c]; rfl), ← Int.natCast_succ]
        have z : dot (M 11 0) (fv M (-1) (k + 1)) (tx (M 14 0 + k) (db_ M i)) = 0 := by
          unfold dot
          rw [sf_c (b := fun _ => 0) _ _ (fun q _ _ => by show fv M (-1) (k + 1) q * tx (M 14 0 + k) (db_ M i) q = 0; unfold tx; rw [if_neg c, Int.mul_zero]), sf_zero]
        rw [z, Int.add_zero]
    exact st.trans h1
theorem sp_duesOf {M : am_M} (I : Ic M) {i : Int} (hi : 0 ≤ i ∧ i < M 11 0) {n : Nat} (hn : n ≤ 6) : ∃ N, X_X0_duesOf_41 i n M = some (pv M (db_ M i) n, N) ∧ Kp M N := by
  obtain ⟨a, a1, a2⟩ := sp_begin I (-1)
  obtain ⟨a', b', h1⟩ := lp_duesOf XB_X0_duesOf_41_5 I hi hn n 1000 0 a (M 43) (by omega) (by omega) a2
  rw [show am_row (am_row M 42 a) 43 (M 43) = am_row M 42 a from row_self (am_row M 42 a) 43, show ((0 : Nat) : Int) = 0 from rfl] at h1
  refine ⟨am_row (am_row M 42 a') 43 b', ?_, (Kp.row (by decide)).tr (Kp.row (by decide))⟩
  rw [X_X0_duesOf_41, XB_X0_duesOf_41_e, a1, ob]
  exact h1
end
section
/-! Days by chance, the reference's side. -/
noncomputable def mem3 (M : am_M) (a b : Nat → Int) (P : Int) : am_M := fun c => if c = 66 then a else if c = 67 then b else if c = 53 then (fun j => if j = 27 then P else M 53 j) else M c
theorem m3_a {M : am_M} {a b : Nat → Int} {P : Int} {c : Nat} (h1 : c ≠ 66) (h2 : c ≠ 67) (h3 : c ≠ 53) : mem3 M a b P c = M c := by
  unfold mem3
  rw [if_neg h1, if_neg h2, if_neg h3]
theorem m3_66 (M : am_M) (a b : Nat → Int) (P : Int) : mem3 M a b P 66 = a := rfl
theorem m3_67 (M : am_M) (a b : Nat → Int) (P : Int) : mem3 M a b P 67 = b := rfl
theorem m3_27 (M : am_M) (a b : Nat → Int) (P : Int) : mem3 M a b P 53 27 = P := rfl
theorem m3_u67 (M : am_M) (a b : Nat → Int) (P : Int) (j : Nat) (v : Int) : am_up (mem3 M a b P) 67 j v = mem3 M a (fun i => if i = j then v else b i) P := by
  funext c
  by_cases c1 : c = 67
  · subst c1; rfl
  · rw [up_a c1]
    unfold mem3
    rw [if_neg c1, if_neg c1]
theorem m3_u66 (M : am_M) (a b : Nat → Int) (P : Int) (j : Nat) (v : Int) : am_up (mem3 M a b P) 66 j v = mem3 M (fun i => if i = j then v else a i) b P := by
  funext c
  by_cases c1 : c = 66
  · subst c1; rfl
  · rw [up_a c1]
    unfold mem3
    rw [if_neg c1, if_neg c1]
theorem m3_u27 (M : am_M) (a b : Nat → Int) (P : Int) (v : Int) : am_up (mem3 M a b P) 53 27 v = mem3 M a b v := by
  funext c
  by_cases c1 : c = 53
  · subst c1
    funext j
    show (if j = 27 then v else (if j = 27 then P else M 53 j)) = (if j = 27 then v else M 53 j)
    split <;> rfl
  · rw [up_a c1]
    unfold mem3
    rw [if_neg c1, if_neg c1]
theorem m3_self (M : am_M) : mem3 M (M 66) (M 67) (M 53 27) = M := by
  funext c
  unfold mem3
  by_cases c1 : c = 66
  · subst c1; rfl
  · rw [if_neg c1]
    by_cases c2 : c = 67
    · subst c2; rfl
    · rw [if_neg c2]
      by_cases c3 : c = 53
      · subst c3
        rw [if_pos rfl]
        funext j
        by_cases e : j = 27
        · subst e; rfl
        · rw [if_neg e]
      · rw [if_neg c3]
theorem m3_K (M : am_M) (a b : Nat → Int) (P : Int) : Kp M (mem3 M a b P) :=
  ⟨fun c q => m3_a (by omega) (by omega) (by omega), fun j q => by show (if j = 27 then P else M 53 j) = M 53 j; rw [if_neg (by omega)], fun j _ => by rw [m3_a (by decide) (by decide) (by decide)]⟩
/-- how far a pair moves the border -/
noncomputable def dlt (r1 r2 x y : Int) : Int := if y < x then (if r1 = -1 ∨ x - y < r1 then 0 else -1) else if x = y then 0 else (if r2 = -1 ∨ y - x < r2 then 0 else 1)
theorem af_d (M : am_M) (p d x y : Int) : af_ M p d x y = p + dlt (mv_ M p (-1) d) (mv_ M p 1 d) x y := by
  unfold af_ aft dlt mv_
  by_cases c1 : y < x
  · have e1 : cmp_ y x = -1 := if_pos c1
    have e2 : gap_ x y = x - y := if_neg (by omega)
    rw [e1, e2, if_pos c1]
    split
    · exact (Int.add_zero p).symm
    · rfl
  · rw [if_neg c1]
    by_cases c2 : x = y
    · subst c2
      have e1 : cmp_ x x = 0 := by unfold cmp_; rw [if_neg (by omega), if_pos rfl]
      rw [e1, if_pos rfl]
      split
      · exact (Int.add_zero p).symm
      · rfl
    · have e1 : cmp_ y x = 1 := by unfold cmp_; rw [if_neg c1, if_neg (fun h => c2 h.symm)]
      have e2 : gap_ x y = y - x := if_pos (by omega)
      rw [e1, e2, if_neg c2]
      split
      · exact (Int.add_zero p).symm
      · rfl
noncomputable def cn_ (r1 r2 t : Int) : Int := sf (fun i => if dlt r1 r2 ((i / 4 : Nat) : Int) ((i % 4 : Nat) : Int) = t then 1 else 0) 0 16
theorem cn_v (r1 r2 : Int) (h1 : r1 = -1 ∨ r1 = 1 ∨ r1 = 2) (h2 : r2 = -1 ∨ r2 = 1 ∨ r2 = 2) : cn_ r1 r2 (-1) = pw r1 ∧ cn_ r1 r2 0 = 16 - pw r1 - pw r2 ∧ cn_ r1 r2 1 = pw r2 := by
  rcases h1 with rfl | rfl | rfl <;> rcases h2 with rfl | rfl | rfl <;> decide
theorem cn_o (r1 r2 t : Int) (h : t ≠ -1 ∧ t ≠ 0 ∧ t ≠ 1) : cn_ r1 r2 t = 0 := by
  unfold cn_
  rw [sf_c (b := fun _ => 0) _ _ (fun i _ _ => by
    refine if_neg (fun e => ?_)
    unfold dlt at e
    split at e
    · split at e <;> omega
    · split at e
      · omega
      · split at e <;> omega), sf_zero]
/-- where a pair leads -/
noncomputable def to_ (M : am_M) (stop d : Int) (p i : Nat) : Int := if (p : Int) = stop then p else af_ M p d ((i / 4 : Nat) : Int) ((i % 4 : Nat) : Int)
theorem to_r {M : am_M} {stop d : Int} {p : Nat} (hp : (p : Int) ≤ M 11 0) (i : Nat) : 0 ≤ to_ M stop d p i ∧ to_ M stop d p i ≤ M 11 0 := by
  unfold to_
  split
  · omega
  · exact af_r (by omega)
theorem ct_e (M : am_M) (stop d : Int) (p q : Nat) : sf (fun i => if to_ M stop d p i = (q : Int) then 1 else 0) 0 16 = ct M stop d p q := by
  unfold ct
  by_cases c : (p : Int) = stop
  · rw [if_pos c]
    by_cases e : q = p
    · rw [if_pos e, sf_c (b := fun _ => 1) _ _ (fun i _ _ => by unfold to_; rw [if_pos c, if_pos (by omega)])]
      decide
    · rw [if_neg e, sf_c (b := fun _ => 0) _ _ (fun i _ _ => by unfold to_; rw [if_pos c, if_neg (by omega)]), sf_zero]
  · rw [if_neg c]
    have h1 := mv_nz (M := M) (b := p) (m := -1) (d := d) (by decide)
    have h2 := mv_nz (M := M) (b := p) (m := 1) (d := d) (by decide)
    have hv := cn_v _ _ h1 h2
    have e0 : sf (fun i => if to_ M stop d p i = (q : Int) then 1 else 0) 0 16 = cn_ (mv_ M p (-1) d) (mv_ M p 1 d) ((q : Int) - p) := by
      unfold cn_
      refine sf_c _ _ (fun i _ _ => ?_)
      unfold to_
      rw [if_neg c, af_d]
      generalize dlt (mv_ M p (-1) d) (mv_ M p 1 d) ((i / 4 : Nat) : Int) ((i % 4 : Nat) : Int) = x
      by_cases e : x = (q : Int) - p
      · rw [if_pos e, if_pos (by omega)]
      · rw [if_neg e, if_neg (by omega)]
    rw [e0]
    by_cases e1 : (q : Int) = p - 1
    · rw [if_pos e1, if_neg (by omega), if_neg (by omega), show (q : Int) - p = -1 by omega, hv.1, Int.add_zero, Int.add_zero]
    · by_cases e2 : q = p
      · rw [if_neg e1, if_pos e2, if_neg (by omega), show (q : Int) - p = 0 by omega, hv.2.1, Int.zero_add, Int.add_zero]
      · by_cases e3 : q = p + 1
        · rw [if_neg e1, if_neg e2, if_pos e3, show (q : Int) - p = 1 by omega, hv.2.2, Int.zero_add, Int.zero_add]
        · rw [if_neg e1, if_neg e2, if_neg e3, cn_o _ _ _ (by omega)]; rfl
theorem dot_up {s : Int} {b : Nat → Int} {t : Nat} (ht : (t : Int) ≤ s) (v : Int) (V : Int → Int) : dot s (fun i => if i = t then b i + v else b i) V = dot s b V + v * V t := by
  unfold dot
  rw [sf_c (b := fun q => b q * V q + (if q = t then 1 else 0) * (v * V q)) _ _ (fun q _ _ => by
    show (if q = t then b q + v else b q) * V q = _
    by_cases e : q = t
    · rw [if_pos e, if_pos e, Int.add_mul, Int.one_mul]
    · rw [if_neg e, if_neg e, Int.zero_mul, Int.add_zero]), sf_add, sf_one (fun q => v * V q), if_pos (by omega)]
noncomputable def sO (strip : Int) (x : Int) : Int := if strip < 0 then 0 else x
theorem m_said (k22 : Int → Int → Int → Int → Int → Int → am_M → am_Rs) {M : am_M} (I : Ic M) {n stop strip v4 d : Int} (hst : -1 ≤ stop ∧ stop ≤ 12) (hsp : strip = -1 ∨ (0 ≤ strip ∧ strip < M 11 0)) (hd : 0 ≤ d ∧ d < 1000) {p j : Nat} (hp : (p : Int) ≤ M 11 0) (hj : j < 16) {t : Nat} (ht : (t : Int) = to_ M stop d p j) (a b : Nat → Int) (P : Int) (n1 : Nat) : XL_X9_layChances_53_14 k22 (n1 + 1) n stop strip v4 d p j (mem3 M a b P) = XL_X9_layChances_53_14 k22 n1 n stop strip v4 d p ((j + 1 : Nat) : Int) (mem3 M a (fun i => if i = t then b i + a p else b i) (P + sO strip (a p * tx d (db_ M strip) t))) := by
  have rs := I.rs
  have hr := to_r (stop := stop) (d := d) hp j
  have ht12 : t < 13 := by omega
  have py : ∀ b', 0 ≤ strip ∧ strip < M 11 0 → X_X9_paysOn_53 strip d t (mem3 M a b' P) = some (tx d (db_ M strip) t, mem3 M a b' P) := fun b' h => by
    have k := (m3_K M a b' P).b.c
    rw [km_paysOn (Kc.ic I k) (by rw [k.1 11 (by decide)]; exact h) hd (by omega), k.db]; rfl
  have hw : 0 ≤ strip ∧ strip < M 11 0 → ∀ _ : Unit, wI (tx d (db_ M strip) t) = tx d (db_ M strip) t := fun h _ => by
    have h1 := kdu_r I 0 strip t
    have h2 := kdu_r I 1 strip t
    unfold tx db_
    generalize du_ M 0 strip t = x at h1 ⊢
    generalize du_ M 1 strip t = y at h2 ⊢
    split
    · exact wI_of (by omega) (by omega)
    · rfl
  have fn : (fun i => if i = t then b t + a p else b i) = fun i => if i = t then b i + a p else b i := by
    funext i
    by_cases e : i = t
    · subst e; rfl
    · rw [if_neg e, if_neg e]
  rw [XL_X9_layChances_53_14, XB_X9_layChances_53_14, wI_of (x := (j : Int)) (by omega) (by omega), if_pos (by omega), wI_of (x := (p : Int)) (by omega) (by omega), wI_of (x := stop) (by omega) (by omega)]
  simp only [if_pos (show 0 ≤ (p : Int) ∧ (p : Int) < 13 by omega), Int.toNat_natCast, m3_u67, m3_66, m3_67, m3_27, m3_u27]
  by_cases c : (p : Int) = stop
  · have tp : t = p := by unfold to_ at ht; rw [if_pos c] at ht; omega
    subst tp
    rw [if_pos c]
    rcases hsp with h | h
    · subst h
      rw [if_pos (show wI (-1) < 0 by decide), fn]
      show _ = XL_X9_layChances_53_14 k22 n1 n stop (-1) v4 d t ((j + 1 : Nat) : Int) (mem3 M a _ (P + 0))
      rw [Int.natCast_succ]
    · rw [if_neg (show ¬ wI strip < 0 by rw [wI_of (by omega) (by omega)]; omega), py _ h, ob]
      dsimp only
      rw [hw h (), m3_u27, fn, Int.natCast_succ]
      unfold sO
      rw [if_neg (by omega)]
  · have ta : (t : Int) = af_ M p d ((j / 4 : Nat) : Int) ((j % 4 : Nat) : Int) := by rw [ht]; unfold to_; rw [if_neg c]
    have k := (m3_K M a b P).b.c
    have e1 : (j : Int).tdiv 4 = ((j / 4 : Nat) : Int) := by rw [Int.tdiv_eq_ediv_of_nonneg (by omega)]; omega
    have e2 : (j : Int).tmod 4 = ((j % 4 : Nat) : Int) := by rw [Int.tmod_eq_emod_of_nonneg (by omega)]; omega
    have bh : X_X9_behind_53 p d ((j / 4 : Nat) : Int) ((j % 4 : Nat) : Int) (mem3 M a b P) = some ((t : Int), mem3 M a b P) := by
      have q : af_ (mem3 M a b P) p d ((j / 4 : Nat) : Int) ((j % 4 : Nat) : Int) = (t : Int) := by rw [ta]; unfold af_; rw [k.1 11 (by decide), k.1 12 (by decide)]
      rw [km_aft (Kc.ic I k) (by rw [k.1 11 (by decide)]; omega) hd (by omega) (by omega), q]
    rw [if_neg c, e1, e2, bh, ob]
    dsimp +instances only
    rw [wI_of (x := (t : Int)) (by omega) (by omega)]
    simp only [if_pos (show 0 ≤ (t : Int) ∧ (t : Int) < 13 by omega), Int.toNat_natCast, m3_u67, m3_66, m3_67, m3_27, m3_u27]
    rcases hsp with h | h
    · subst h
      rw [if_pos (show wI (-1) < 0 by decide), fn]
      show _ = XL_X9_layChances_53_14 k22 n1 n stop (-1) v4 d p ((j + 1 : Nat) : Int) (mem3 M a _ (P + 0))
      rw [Int.natCast_succ]
    · rw [if_neg (show ¬ wI strip < 0 by rw [wI_of (by omega) (by omega)]; omega), py _ h, ob]
      dsimp only
      rw [hw h (), m3_u27, fn, Int.natCast_succ]
      unfold sO
      rw [if_neg (by omega)]
theorem lp_said (k22 : Int → Int → Int → Int → Int → Int → am_M → am_Rs) {M : am_M} (I : Ic M) {n stop strip v4 d : Int} (hst : -1 ≤ stop ∧ stop ≤ 12) (hsp : strip = -1 ∨ (0 ≤ strip ∧ strip < M 11 0)) (hd : 0 ≤ d ∧ d < 1000) {p : Nat} (hp : (p : Int) ≤ M 11 0) (a : Nat → Int) : ∀ (e n1 j : Nat) (b : Nat → Int) (P : Int), j + e = 16 → e < n1 → ∃ b' P', XL_X9_layChances_53_14 k22 n1 n stop strip v4 d p j (mem3 M a b P) = k22 n stop strip v4 d p (mem3 M a b' P') ∧ (∀ q, b' q = b q + a p * sf (fun i => if to_ M stop d p i = (q : Int) then 1 else 0) j e) ∧ P' = P + sO strip (dot (M 11 0) b' (tx d (db_ M strip)) - dot (M 11 0) b (tx d (db_ M strip))) := by
  intro e
  induction e with
  | zero =>
    intro n1 j b P hj hn1
    obtain ⟨n1, rfl⟩ : ∃ m, n1 = m + 1 := ⟨n1 - 1, by omega⟩
    refine ⟨b, P, ?_, fun q => by simp only [sf, Int.mul_zero, Int.add_zero], ?_⟩
    · rw [XL_X9_layChances_53_14, XB_X9_layChances_53_14, wI_of (x := (j : Int)) (by omega) (by omega), if_neg (by omega)]
    · unfold sO; rw [Int.sub_self, ite_self, Int.add_zero]
  | succ e ih =>
    intro n1 j b P hj hn1
    obtain ⟨n1, rfl⟩ : ∃ m, n1 = m + 1 := ⟨n1 - 1, by omega⟩
    have hr := to_r (stop := stop) (d := d) hp j
    obtain ⟨t, ht⟩ := Int.eq_ofNat_of_zero_le hr.1
    have s1 := m_said k22 I (n := n) (v4 := v4) hst hsp hd hp (show j < 16 by omega) ht.symm a b P n1
    obtain ⟨b', P', h1, h2, h3⟩ := ih n1 (j + 1) (fun i => if i = t then b i + a p else b i) (P + sO strip (a p * tx d (db_ M strip) t)) (by omega) (by omega)
    refine ⟨b', P', s1.trans h1, fun q => ?_, ?_⟩
    · rw [h2 q]
      simp only [sf]
      rw [ht]
      by_cases c : q = t
      · rw [if_pos c, if_pos (by omega), Int.mul_add, Int.mul_one, Int.add_assoc]
      · rw [if_neg c, if_neg (by omega), Int.zero_add]
    · rw [h3, dot_up (by omega)]
      unfold sO
      split
      · omega
      · generalize a p * tx d (db_ M strip) t = x
        omega
theorem lp_places (k23 : Int → Int → Int → Int → am_M → am_Rs) {M : am_M} (I : Ic M) {n stop strip v4 d : Int} (hst : -1 ≤ stop ∧ stop ≤ 12) (hsp : strip = -1 ∨ (0 ≤ strip ∧ strip < M 11 0)) (hd : 0 ≤ d ∧ d < 1000) (a : Nat → Int) : ∀ (e n1 i : Nat) (b : Nat → Int) (P : Int), (i : Int) + e = M 11 0 + 1 → e < n1 → ∃ b' P', XL_X9_layChances_53_12 k23 n1 n stop strip v4 d i (mem3 M a b P) = k23 n stop strip v4 (mem3 M a b' P') ∧ (∀ q, b' q = nxv M stop d a e i b q) ∧ P' = P + sO strip (dot (M 11 0) b' (tx d (db_ M strip)) - dot (M 11 0) b (tx d (db_ M strip))) := by
  intro e
  induction e with
  | zero =>
    intro n1 i b P hi hn1
    have rs := I.rs
    obtain ⟨n1, rfl⟩ : ∃ m, n1 = m + 1 := ⟨n1 - 1, by omega⟩
    refine ⟨b, P, ?_, fun q => rfl, ?_⟩
    · rw [XL_X9_layChances_53_12, XB_X9_layChances_53_12, show (mem3 M a b P) 53 1 = M 11 0 from I.es, wI_of (x := (i : Int)) (by omega) (by omega), wI_of (x := M 11 0) (by omega) (by omega), if_pos (by omega)]
    · unfold sO; rw [Int.sub_self, ite_self, Int.add_zero]
  | succ e ih =>
    intro n1 i b P hi hn1
    have rs := I.rs
    obtain ⟨n1, rfl⟩ : ∃ m, n1 = m + 1 := ⟨n1 - 1, by omega⟩
    obtain ⟨b1, P1, g1, g2, g3⟩ := lp_said (XB_X9_layChances_53_22 (XL_X9_layChances_53_12 k23 n1)) I (n := n) (v4 := v4) hst hsp hd (p := i) (by omega) a 16 1000 0 b P (by omega) (by omega)
    have hb1 : b1 = nx1 M stop d a i b := funext fun q => by rw [g2 q, ct_e]; rfl
    obtain ⟨b', P', h1, h2, h3⟩ := ih n1 (i + 1) b1 P1 (by push_cast; omega) (by omega)
    refine ⟨b', P', ?_, fun q => ?_, ?_⟩
    · rw [show ((0 : Nat) : Int) = 0 from rfl] at g1
      rw [XL_X9_layChances_53_12, XB_X9_layChances_53_12, show (mem3 M a b P) 53 1 = M 11 0 from I.es, wI_of (x := (i : Int)) (by omega) (by omega), wI_of (x := M 11 0) (by omega) (by omega), if_neg (by omega), g1, XB_X9_layChances_53_22]
      exact h1
    · rw [h2 q, hb1]; rfl
    · rw [h3, g3]
      unfold sO
      split
      · omega
      · omega
theorem lp_zero (k11 : Int → Int → Int → Int → Int → am_M → am_Rs) {M : am_M} (n stop strip v4 d : Int) (a : Nat → Int) (P : Int) : ∀ (e n1 i : Nat) (b : Nat → Int), i + e = 13 → e < n1 → (∀ q, q < i → b q = 0) → ∃ b', XL_X9_layChances_53_9 k11 n1 n stop strip v4 d i (mem3 M a b P) = k11 n stop strip v4 d (mem3 M a b' P) ∧ ∀ q, q < 13 → b' q = 0 := by
  intro e
  induction e with
  | zero =>
    intro n1 i b hi hn1 hb
    obtain ⟨n1, rfl⟩ : ∃ m, n1 = m + 1 := ⟨n1 - 1, by omega⟩
    refine ⟨b, ?_, fun q hq => hb q (by omega)⟩
    rw [XL_X9_layChances_53_9, XB_X9_layChances_53_9, wI_of (x := (i : Int)) (by omega) (by omega), if_neg (by omega)]
  | succ e ih =>
    intro n1 i b hi hn1 hb
    obtain ⟨n1, rfl⟩ : ∃ m, n1 = m + 1 := ⟨n1 - 1, by omega⟩
    obtain ⟨b', h1, h2⟩ := ih n1 (i + 1) (fun q => if q = i then 0 else b q) (by omega) (by omega) (fun q hq => by
      by_cases c : q = i
      · rw [if_pos c]
      · rw [if_neg c]; exact hb q (by omega))
    refine ⟨b', ?_, h2⟩
    rw [XL_X9_layChances_53_9, XB_X9_layChances_53_9, wI_of (x := (i : Int)) (by omega) (by omega), if_pos (by omega), if_pos (by omega), Int.toNat_natCast, m3_u67]
    exact h1
theorem lp_cpy (k26 : Int → Int → Int → Int → am_M → am_Rs) {M : am_M} (n stop strip v4 : Int) (b : Nat → Int) (P : Int) : ∀ (e n1 i : Nat) (a : Nat → Int), i + e = 13 → e < n1 → (∀ q, q < i → a q = b q) → ∃ a', XL_X9_layChances_53_24 k26 n1 n stop strip v4 i (mem3 M a b P) = k26 n stop strip v4 (mem3 M a' b P) ∧ ∀ q, q < 13 → a' q = b q := by
  intro e
  induction e with
  | zero =>
    intro n1 i a hi hn1 ha
    obtain ⟨n1, rfl⟩ : ∃ m, n1 = m + 1 := ⟨n1 - 1, by omega⟩
    refine ⟨a, ?_, fun q hq => ha q (by omega)⟩
    rw [XL_X9_layChances_53_24, XB_X9_layChances_53_24, wI_of (x := (i : Int)) (by omega) (by omega), if_neg (by omega)]
  | succ e ih =>
    intro n1 i a hi hn1 ha
    obtain ⟨n1, rfl⟩ : ∃ m, n1 = m + 1 := ⟨n1 - 1, by omega⟩
    obtain ⟨a', h1, h2⟩ := ih n1 (i + 1) (fun q => if q = i then b i else a q) (by omega) (by omega) (fun q hq => by
      by_cases c : q = i
      · rw [if_pos c, c]
      · rw [if_neg c]; exact ha q (by omega))
    refine ⟨a', ?_, h2⟩
    rw [XL_X9_layChances_53_24, XB_X9_layChances_53_24, wI_of (x := (i : Int)) (by omega) (by omega), if_pos (by omega), if_pos (by omega), if_pos (by omega), Int.toNat_natCast, m3_67, m3_u66]
    exact h1
theorem lp_init (k6 : Int → Int → Int → am_M → am_Rs) {M : am_M} (I : Ic M) (n stop strip : Int) (b : Nat → Int) (P : Int) : ∀ (e n1 i : Nat) (a : Nat → Int), i + e = 13 → e < n1 → (∀ q : Nat, q < i → a q = if (q : Int) = M 14 1 then 1 else 0) → ∃ a', XL_X9_layChances_53_1 k6 n1 n stop strip i (mem3 M a b P) = k6 n stop strip (mem3 M a' b P) ∧ ∀ q : Nat, q < 13 → a' q = if (q : Int) = M 14 1 then 1 else 0 := by
  intro e
  induction e with
  | zero =>
    intro n1 i a hi hn1 ha
    obtain ⟨n1, rfl⟩ : ∃ m, n1 = m + 1 := ⟨n1 - 1, by omega⟩
    refine ⟨a, ?_, fun q hq => ha q (by omega)⟩
    rw [XL_X9_layChances_53_1, XB_X9_layChances_53_1, wI_of (x := (i : Int)) (by omega) (by omega), if_neg (by omega)]
  | succ e ih =>
    intro n1 i a hi hn1 ha
    have r1 := I.r1
    have rs := I.rs
    obtain ⟨n1, rfl⟩ : ∃ m, n1 = m + 1 := ⟨n1 - 1, by omega⟩
    obtain ⟨a', h1, h2⟩ := ih n1 (i + 1) (fun q => if q = i then (if (i : Int) = M 14 1 then 1 else 0) else a q) (by omega) (by omega) (fun q hq => by
      by_cases c : q = i
      · rw [if_pos c, c]
      · rw [if_neg c]; exact ha q (by omega))
    refine ⟨a', ?_, h2⟩
    rw [XL_X9_layChances_53_1, XB_X9_layChances_53_1, wI_of (x := (i : Int)) (by omega) (by omega), if_pos (by omega), show (mem3 M a b P) 54 1 = M 14 1 from I.d1, wI_of (x := M 14 1) (by omega) (by omega)]
    by_cases c : (i : Int) = M 14 1
    · simp only [if_pos c] at h1
      rw [if_pos c, if_pos (by omega), Int.toNat_natCast, m3_u66]
      exact h1
    · simp only [if_neg c] at h1
      rw [if_neg c, if_pos (by omega), Int.toNat_natCast, m3_u66]
      exact h1
theorem lp_days (k27 : am_M → am_Rs) {M : am_M} (I : Ic M) {stop strip : Int} (hst : -1 ≤ stop ∧ stop ≤ 12) (hsp : strip = -1 ∨ (0 ≤ strip ∧ strip < M 11 0)) (hss : 0 ≤ strip → stop = -1) {n : Nat} (hn : n ≤ 6) : ∀ (e n1 k : Nat) (a b : Nat → Int) (P : Int), k + e = n → e < n1 → (∀ q, q < 13 → a q = fv M stop k q) → (0 ≤ strip → P = pv M (db_ M strip) k) → ∃ a' b' P', XL_X9_layChances_53_7 k27 n1 n stop strip k (mem3 M a b P) = k27 (mem3 M a' b' P') ∧ (∀ q, q < 13 → a' q = fv M stop n q) ∧ (0 ≤ strip → P' = pv M (db_ M strip) n) := by
  intro e
  induction e with
  | zero =>
    intro n1 k a b P hk hn1 ha hP
    obtain ⟨n1, rfl⟩ : ∃ m, n1 = m + 1 := ⟨n1 - 1, by omega⟩
    refine ⟨a, b, P, ?_, by rw [← hk, Nat.add_zero]; exact ha, by rw [← hk, Nat.add_zero]; exact hP⟩
    rw [XL_X9_layChances_53_7, XB_X9_layChances_53_7, wI_of (x := (k : Int)) (by omega) (by omega), wI_of (x := (n : Int)) (by omega) (by omega), if_neg (by omega)]
  | succ e ih =>
    intro n1 k a b P hk hn1 ha hP
    have r0 := I.r0
    have rs := I.rs
    obtain ⟨n1, rfl⟩ : ∃ m, n1 = m + 1 := ⟨n1 - 1, by omega⟩
    obtain ⟨b0, z1, z2⟩ := lp_zero (XB_X9_layChances_53_11 (XL_X9_layChances_53_12 (XB_X9_layChances_53_23 (XL_X9_layChances_53_24 (XB_X9_layChances_53_26 (XL_X9_layChances_53_7 k27 n1)) 1000)) 1000)) (M := M) n stop strip k (M 14 0 + k) a (P * 16) 13 1000 0 b (by omega) (by omega) (fun q hq => by omega)
    obtain ⟨b1, P1, g1, g2, g3⟩ := lp_places (XB_X9_layChances_53_23 (XL_X9_layChances_53_24 (XB_X9_layChances_53_26 (XL_X9_layChances_53_7 k27 n1)) 1000)) I (n := n) (v4 := k) hst hsp (d := M 14 0 + k) (by omega) a (M 11 0 + 1).toNat 1000 0 b0 (P * 16) (by omega) (by omega)
    obtain ⟨a1, c1, c2⟩ := lp_cpy (XB_X9_layChances_53_26 (XL_X9_layChances_53_7 k27 n1)) (M := M) n stop strip k b1 P1 13 1000 0 a (by omega) (by omega) (fun q hq => by omega)
    have hb1 : ∀ q, q < 13 → b1 q = fv M stop (k + 1) q := fun q hq => by rw [g2 q]; exact nxv_c ha (M 11 0 + 1).toNat 0 _ _ (by omega) z2 q hq
    obtain ⟨a', b', P', h1, h2, h3⟩ := ih n1 (k + 1) a1 b1 P1 (by omega) (by omega) (fun q hq => by rw [c2 q hq, hb1 q hq]) (fun h => by
      have hs := hss h
      rw [g3, hP h, pv]
      unfold sO
      rw [if_neg (by omega)]
      have e1 : dot (M 11 0) b1 (tx (M 14 0 + k) (db_ M strip)) = dot (M 11 0) (fv M (-1) (k + 1)) (tx (M 14 0 + k) (db_ M strip)) := dot_c fun q hq => by rw [hb1 q (by omega), hs]
      have e2 : dot (M 11 0) b0 (tx (M 14 0 + k) (db_ M strip)) = 0 := by
        unfold dot
        rw [sf_c (b := fun _ => 0) _ _ (fun q _ hq => by show b0 q * _ = 0; rw [z2 q (by omega), Int.zero_mul]), sf_zero]
      rw [e1, e2, Int.sub_zero])
    refine ⟨a', b', P', ?_, h2, h3⟩
    rw [show ((0 : Nat) : Int) = 0 from rfl] at z1 g1 c1
    rw [XL_X9_layChances_53_7, XB_X9_layChances_53_7, wI_of (x := (k : Int)) (by omega) (by omega), wI_of (x := (n : Int)) (by omega) (by omega), if_pos (by omega), show (mem3 M a b P) 54 0 = M 14 0 from I.d0, m3_27, m3_u27, z1, XB_X9_layChances_53_11, g1, XB_X9_layChances_53_23, c1, XB_X9_layChances_53_26]
    exact h1
theorem sp_chances {M : am_M} (I : Ic M) {stop strip : Int} (hst : -1 ≤ stop ∧ stop ≤ 12) (hsp : strip = -1 ∨ (0 ≤ strip ∧ strip < M 11 0)) (hss : 0 ≤ strip → stop = -1) {n : Nat} (hn : n ≤ 6) : ∃ a b P, X_X9_layChances_53 n stop strip M = some (0, mem3 M a b P) ∧ (∀ q, q < 13 → a q = fv M stop n q) ∧ (0 ≤ strip → P = pv M (db_ M strip) n) := by
  obtain ⟨a0, i1, i2⟩ := lp_init (XB_X9_layChances_53_6 (XL_X9_layChances_53_7 XB_X9_layChances_53_27 1000)) I n stop strip (M 67) (M 53 27) 13 1000 0 (M 66) (by omega) (by omega) (fun q hq => by omega)
  rw [m3_self, show ((0 : Nat) : Int) = 0 from rfl] at i1
  obtain ⟨a, b, P, h1, h2, h3⟩ := lp_days XB_X9_layChances_53_27 I hst hsp hss hn n 1000 0 a0 (M 67) 0 (by omega) (by omega) i2 (fun _ => rfl)
  rw [show ((0 : Nat) : Int) = 0 from rfl] at h1
  refine ⟨a, b, P, ?_, h2, h3⟩
  rw [X_X9_layChances_53, XB_X9_layChances_53_e, i1, XB_X9_layChances_53_6, m3_u27, h1]
  rfl
end
section
/-! Chances in lowest terms. -/
noncomputable def rd_ : Nat → Nat → Nat × Nat
  | 0, u => (u, 1)
  | m + 1, u => if u % 2 = 0 then rd_ m (u / 2) else (u, 2 ^ (m + 1))
theorem gcd_odd {u : Nat} (h : u % 2 = 1) (m : Nat) : Nat.gcd u (2 ^ m) = 1 := by
  have h1 : Nat.Coprime u 2 := by
    show Nat.gcd u 2 = 1
    rw [Nat.gcd_comm, Nat.gcd_rec, h]
    rfl
  exact h1.pow_right m
theorem rd_g : ∀ (m u : Nat), rd_ m u = (u / Nat.gcd u (2 ^ m), 2 ^ m / Nat.gcd u (2 ^ m))
  | 0, u => by
    show (u, 1) = (u / Nat.gcd u 1, 1 / Nat.gcd u 1)
    rw [Nat.gcd_one_right, Nat.div_one]
  | m + 1, u => by
    rw [rd_]
    by_cases c : u % 2 = 0
    · obtain ⟨v, rfl⟩ : ∃ v, u = 2 * v := ⟨u / 2, by omega⟩
      have hg : Nat.gcd (2 * v) (2 ^ (m + 1)) = 2 * Nat.gcd v (2 ^ m) := by
        rw [Nat.pow_succ, Nat.mul_comm (2 ^ m) 2, Nat.gcd_mul_left]
      rw [if_pos c, show 2 * v / 2 = v by omega, rd_g m v, hg, Nat.mul_div_mul_left _ _ (by decide), Nat.pow_succ, Nat.mul_comm (2 ^ m) 2, Nat.mul_div_mul_left _ _ (by decide)]
    · rw [if_neg c, gcd_odd (by omega), Nat.div_one, Nat.div_one]
theorem cUl_up (N : am_M) (u l u' l' : Int) : am_up (am_up (cUl u l N) 0 14 u') 0 15 l' = cUl u' l' N := by
  funext c
  unfold cUl
  by_cases hc : c = 0
  · subst hc
    funext j
    by_cases h15 : j = 15
    · subst h15; rw [up_s, up_s]
    · rw [up_j h15, up_j h15]
      by_cases h14 : j = 14
      · subst h14; rw [up_s, up_s]
      · rw [up_j h14, up_j h14, up_j h15, up_j h14]
  · rw [up_a hc, up_a hc, up_a hc, up_a hc, up_a hc, up_a hc]
theorem p2 : ∀ m, m ≤ 24 → 2 ^ m ≤ 16777216 := by
  have : ∀ m : Fin 25, 2 ^ m.val ≤ 16777216 := by decide
  intro m hm
  exact this ⟨m, by omega⟩
theorem lp_tellC (k4 : am_M → am_Rs) (N : am_M) : ∀ (m n u : Nat), m ≤ 24 → u < 4611686018427387904 → m < n → XL_X8_tellChance_0_1 k4 n (cUl (u : Int) ((2 ^ m : Nat) : Int) N) = k4 (cUl ((rd_ m u).1 : Int) ((rd_ m u).2 : Int) N) := by
  intro m
  induction m with
  | zero =>
    intro n u hm hu hn
    obtain ⟨n, rfl⟩ : ∃ q, n = q + 1 := ⟨n - 1, by omega⟩
    have e15 : (cUl (u : Int) ((2 ^ 0 : Nat) : Int) N) 0 15 = 1 := by unfold cUl; rw [up_s]; rfl
    rw [XL_X8_tellChance_0_1, XB_X8_tellChance_0_1, e15, if_neg (by decide)]
    rfl
  | succ m ih =>
    intro n u hm hu hn
    obtain ⟨n, rfl⟩ : ∃ q, n = q + 1 := ⟨n - 1, by omega⟩
    have hp := p2 (m + 1) hm
    have hp1 : 0 < 2 ^ m := Nat.two_pow_pos m
    have e2 : 2 ^ (m + 1) = 2 * 2 ^ m := by rw [Nat.pow_succ, Nat.mul_comm]
    obtain ⟨l, hl⟩ : ∃ l, l = 2 ^ m := ⟨_, rfl⟩
    rw [← hl] at e2 hp1
    rw [e2] at hp
    have e15 : (cUl (u : Int) ((2 ^ (m + 1) : Nat) : Int) N) 0 15 = ((2 * l : Nat) : Int) := by unfold cUl; rw [up_s, e2]
    have e14 : (cUl (u : Int) ((2 ^ (m + 1) : Nat) : Int) N) 0 14 = (u : Int) := by unfold cUl; rw [up_j (by decide), up_s]
    have c1 : 0 < wI (c_lcmp ((2 * l : Nat) : Int) 1) := by
      rw [lc_gt, wL_of (x := ((2 * l : Nat) : Int)) (by omega) (by omega), show wL 1 = 1 from rfl]; omega
    have c2 : wI (c_lcmp ((wL (u : Int)).tmod 2) 0) = 0 ↔ u % 2 = 0 := by
      rw [lc_eq, wL_of (x := (u : Int)) (by omega) (by omega), Int.tmod_eq_emod_of_nonneg (by omega), wL_of (by omega) (by omega), show wL 0 = 0 from rfl]; omega
    rw [XL_X8_tellChance_0_1, XB_X8_tellChance_0_1, e15, e14, if_pos c1, rd_]
    by_cases c : u % 2 = 0
    · have d1 : (wL (u : Int)).tdiv 2 = ((u / 2 : Nat) : Int) := by rw [wL_of (by omega) (by omega), Int.tdiv_eq_ediv_of_nonneg (by omega)]; omega
      have d2 : ∀ x : Int, (am_up (cUl (u : Int) ((2 ^ (m + 1) : Nat) : Int) N) 0 14 x) 0 15 = ((2 * l : Nat) : Int) := fun x => by rw [up_j (by decide), e15]
      have d3 : (wL ((2 * l : Nat) : Int)).tdiv 2 = ((l : Nat) : Int) := by rw [wL_of (by omega) (by omega), Int.tdiv_eq_ediv_of_nonneg (by omega)]; omega
      rw [if_pos (c2.mpr c), if_pos c, d1, d2, d3, cUl_up, hl]
      exact ih n (u / 2) (by omega) (by omega) (by omega)
    · rw [if_neg (fun h => c (c2.mp h)), if_neg c]
theorem sp_tellC (N : am_M) {m u : Nat} (hm : m ≤ 24) (hu : u < 4611686018427387904) : X_X8_tellChance_0 (u : Int) ((2 ^ m : Nat) : Int) N = some (1, cUl ((rd_ m u).1 : Int) ((rd_ m u).2 : Int) N) := by
  rw [X_X8_tellChance_0, XB_X8_tellChance_0_e]
  have := lp_tellC XB_X8_tellChance_0_4 N m 1000 u hm hu (by omega)
  exact this
theorem lp_gcd (k3 : Int → Int → Int → am_M → am_Rs) (N : am_M) (v1 v3 : Int) : ∀ (k n x y : Nat), y < 2 ^ k → x < 4611686018427387904 → k ≤ 40 → 2 * k < n → XL_X9_tellParts_53_1 k3 n v1 v3 (x : Int) (y : Int) N = k3 v1 v3 (Nat.gcd x y : Int) N := by
  have P : ∀ k, k ≤ 40 → 2 ^ k ≤ 1099511627776 := by
    have : ∀ m : Fin 41, 2 ^ m.val ≤ 1099511627776 := by decide
    intro m hm
    exact this ⟨m, by omega⟩
  have st : ∀ (n x y : Nat), x < 4611686018427387904 → y < 1099511627777 → XL_X9_tellParts_53_1 k3 (n + 1) v1 v3 (x : Int) (y : Int) N = if y = 0 then k3 v1 v3 (x : Int) N else XL_X9_tellParts_53_1 k3 n v1 v3 (y : Int) ((x % y : Nat) : Int) N := by
    intro n x y hx hy
    have c2 : wI (c_lcmp (y : Int) 0) = 0 ↔ y = 0 := by
      rw [lc_eq, wL_of (x := (y : Int)) (by omega) (by omega), show wL 0 = 0 from rfl]; omega
    rw [XL_X9_tellParts_53_1, XB_X9_tellParts_53_1]
    by_cases c : y = 0
    · rw [if_pos (c2.mpr c), if_pos c]
    · rw [if_neg (fun h => c (c2.mp h)), if_neg c, wL_of (x := (y : Int)) (by omega) (by omega), wL_of (x := (x : Int)) (by omega) (by omega), if_pos (by omega), Int.tmod_eq_emod_of_nonneg (by omega), ← Int.natCast_emod]
  intro k
  induction k with
  | zero =>
    intro n x y hy hx hk hn
    obtain ⟨n, rfl⟩ : ∃ q, n = q + 1 := ⟨n - 1, by omega⟩
    have : y = 0 := by have h : y < 1 := hy; omega
    subst this
    rw [st n x 0 hx (by omega), if_pos rfl, Nat.gcd_zero_right]
  | succ k ih =>
    intro n x y hy hx hk hn
    obtain ⟨n, rfl⟩ : ∃ q, n = q + 2 := ⟨n - 2, by omega⟩
    have hp := P (k + 1) hk
    have e2 : 2 ^ (k + 1) = 2 * 2 ^ k := by rw [Nat.pow_succ, Nat.mul_comm]
    rw [st (n + 1) x y hx (by omega)]
    by_cases c : y = 0
    · subst c; rw [if_pos rfl, Nat.gcd_zero_right]
    · rw [if_neg c]
      have hr : x % y < y := Nat.mod_lt x (by omega)
      rw [st n y (x % y) (by omega) (by omega)]
      have g1 : Nat.gcd x y = Nat.gcd y (x % y) := by rw [Nat.gcd_comm x y, Nat.gcd_rec y x, Nat.gcd_comm]
      by_cases c2 : x % y = 0
      · rw [if_pos c2, g1, c2, Nat.gcd_zero_right]
      · rw [if_neg c2]
        have hr2 : y % (x % y) < x % y := Nat.mod_lt y (by omega)
        have hr3 : y % (x % y) ≤ y - x % y := by
          have h1 := Nat.mod_add_div y (x % y)
          have h2 : 1 ≤ y / (x % y) := (Nat.one_le_div_iff (by omega)).mpr (by omega)
          have h3 : x % y * 1 ≤ x % y * (y / (x % y)) := Nat.mul_le_mul_left _ h2
          rw [Nat.mul_one] at h3
          omega
        have g2 : Nat.gcd y (x % y) = Nat.gcd (x % y) (y % (x % y)) := by rw [Nat.gcd_comm y (x % y), Nat.gcd_rec (x % y) y, Nat.gcd_comm]
        rw [ih n (x % y) (y % (x % y)) (by omega) (by omega) (by omega) (by omega), g1, g2]
theorem sp_parts (N : am_M) {m u : Nat} (hm : m ≤ 24) (hu : u < 4611686018427387904) : X_X9_tellParts_53 (u : Int) ((2 ^ m : Nat) : Int) N = some (1, mUl ((rd_ m u).1 : Int) ((rd_ m u).2 : Int) N) := by
  have hp := p2 m hm
  have hpos := Nat.two_pow_pos m
  rw [X_X9_tellParts_53, XB_X9_tellParts_53_e, lp_gcd XB_X9_tellParts_53_3 N _ _ 25 1000 u (2 ^ m) (by omega) hu (by omega) (by omega), XB_X9_tellParts_53_3, rd_g]
  obtain ⟨L, hL⟩ : ∃ L, L = 2 ^ m := ⟨_, rfl⟩
  rw [← hL] at hp hpos ⊢
  have g0 : 0 < Nat.gcd u L := Nat.gcd_pos_of_pos_right u hpos
  have g1 : Nat.gcd u L ≤ L := Nat.gcd_le_right u hpos
  obtain ⟨g, hg⟩ : ∃ g, g = Nat.gcd u L := ⟨_, rfl⟩
  rw [← hg] at g0 g1 ⊢
  rw [wL_of (x := (g : Int)) (by omega) (by omega), if_pos (by omega), if_pos (by omega), wL_of (x := (u : Int)) (by omega) (by omega), wL_of (x := (L : Int)) (by omega) (by omega), Int.tdiv_eq_ediv_of_nonneg (by omega), Int.tdiv_eq_ediv_of_nonneg (by omega), ← Int.natCast_ediv, ← Int.natCast_ediv]
  rfl
theorem p16 (n : Nat) : (16 : Int) ^ n = ((2 ^ (4 * n) : Nat) : Int) := by
  rw [Nat.pow_mul]
  push_cast
  rfl
theorem lp_pin (k3 : Int → am_M → am_Rs) (N : am_M) {v : Nat} (hv : v ≤ 6) : ∀ (e n k : Nat), k + e = v → e < n → XL_X0_pairsIn_1 k3 n v ((16 : Int) ^ k) k N = k3 ((16 : Int) ^ v) N := by
  intro e
  induction e with
  | zero =>
    intro n k hk hn
    obtain ⟨n, rfl⟩ : ∃ q, n = q + 1 := ⟨n - 1, by omega⟩
    rw [XL_X0_pairsIn_1, XB_X0_pairsIn_1, wI_of (x := (k : Int)) (by omega) (by omega), wI_of (x := (v : Int)) (by omega) (by omega), if_neg (by omega), show k = v by omega]
  | succ e ih =>
    intro n k hk hn
    obtain ⟨n, rfl⟩ : ∃ q, n = q + 1 := ⟨n - 1, by omega⟩
    rw [XL_X0_pairsIn_1, XB_X0_pairsIn_1, wI_of (x := (k : Int)) (by omega) (by omega), wI_of (x := (v : Int)) (by omega) (by omega), if_pos (by omega), ← Int.natCast_succ, ← Int.pow_succ]
    exact ih n (k + 1) (by omega) (by omega)
theorem sp_pin (N : am_M) {v : Nat} (hv : v ≤ 6) : X_X0_pairsIn v N = some (((2 ^ (4 * v) : Nat) : Int), N) := by
  have := lp_pin XB_X0_pairsIn_3 N hv v 1000 0 (by omega) (by omega)
  rw [X_X0_pairsIn, XB_X0_pairsIn_e, ← p16]
  exact this
theorem sp_six (N : am_M) {v : Nat} (hv : v ≤ 6) : X_X9_sixteen v N = some (((2 ^ (4 * v) : Nat) : Int), N) := by
  have h : ∀ m : Fin 7, b_lshl_ 1 (4 * ((m.val : Nat) : Int)) = ((2 ^ (4 * m.val) : Nat) : Int) := by decide +kernel
  rw [X_X9_sixteen, h ⟨v, by omega⟩]
theorem fv_k {M N : am_M} (k : Kc M N) (stop : Int) : ∀ n, fv N stop n = fv M stop n
  | 0 => by funext q; unfold fv; rw [k.1 14 (by decide)]
  | n + 1 => by
    funext q
    unfold fv
    rw [fv_k k stop n, k.1 14 (by decide), k.1 11 (by decide), nxv_k k.mv]
theorem pv_k {M N : am_M} (k : Kc M N) (D : Int → Int) : ∀ n, pv N D n = pv M D n
  | 0 => rfl
  | n + 1 => by
    unfold pv
    rw [pv_k k D n, fv_k k, k.1 14 (by decide), k.1 11 (by decide)]
theorem p208 : ∀ m, m ≤ 6 → (208 : Int) ^ m ≤ 80980417183744 := by
  have : ∀ m : Fin 7, (208 : Int) ^ m.val ≤ 80980417183744 := by decide
  intro m hm
  exact this ⟨m, by omega⟩
theorem fv_n {M : am_M} (I : Ic M) (stop : Int) {n q : Nat} (hn : n ≤ 6) (hq : q < 13) : ∃ u : Nat, fv M stop n q = u ∧ u < 4611686018427387904 := by
  have h := fv_r I stop n q hq
  have hp := p208 n hn
  obtain ⟨u, hu⟩ := Int.eq_ofNat_of_zero_le h.1
  exact ⟨u, hu, by omega⟩
theorem eq_odds {M : am_M} (I : Inv M) {p n : Int} (hp : iR p) (hn : iR n) : Step (X_X8_odds_0 p n) (X_X9_odds_53 p n) M := gd_odds I hp hn fun h1 h2 h3 => by
  obtain ⟨t, rfl⟩ := Int.eq_ofNat_of_zero_le h1.1
  obtain ⟨n, rfl⟩ := Int.eq_ofNat_of_zero_le h2.1
  have rs := I.rs
  obtain ⟨N1, a1, a2⟩ := sp_ending I.b.c (t := t) (by omega) (n := n) (by omega)
  obtain ⟨u, hu, hu2⟩ := fv_n I.b.c (-1) (n := n) (q := t) (by omega) (by omega)
  rw [hu] at a1
  obtain ⟨x, hx⟩ : ∃ x : Int, x = ((rd_ (4 * n) u).1 : Int) := ⟨_, rfl⟩
  obtain ⟨y, hy⟩ : ∃ y : Int, y = ((rd_ (4 * n) u).2 : Int) := ⟨_, rfl⟩
  have c0 : X_X8_odds_0 t n M = some (1, cUl x y N1) := by
    rw [X_X8_odds_0, sp_isPlace_11 I.g11 hp, b2_t h1, ob]
    dsimp +instances only
    rw [if_neg (by decide), sp_isChance M hn, b2_t h2, ob]
    dsimp +instances only
    rw [if_neg (by decide), sp_hasNoLand I.g11, b2_f h3, ob]
    dsimp +instances only
    rw [if_pos wI_0, a1, ob]
    dsimp only
    rw [sp_pin N1 (by omega), ob]
    dsimp only
    rw [sp_tellC N1 (by omega) hu2, ob, hx, hy]
  have kc : Kc M (cUl x y N1) := a2.b.c.tr (Kb.cu x y N1).c
  have e53 : (cUl x y N1) 53 1 = M 11 0 := by rw [kc.2.1, I.es]
  obtain ⟨a, b, P, g1, g2, -⟩ := sp_chances (Kc.ic I.b.c kc) (stop := -1) (strip := -1) (by decide) (Or.inl rfl) (fun _ => rfl) (n := n) (by omega)
  have e1 : a t = (u : Int) := by rw [g2 t (by omega), fv_k kc, hu]
  have m0 : X_X9_odds_53 t n (cUl x y N1) = some (1, mUl x y (mem3 (cUl x y N1) a b P)) := by
    rw [X_X9_odds_53, sp_isPlace (by rw [e53]; exact rs) hp, e53, b2_t h1, ob]
    dsimp +instances only
    rw [if_neg (by decide), wI_R hn, sp_in _ hn i0 i6, b2_t h2, ob]
    dsimp +instances only
    rw [if_neg (by decide), e53, wI_of (x := M 11 0) (by omega) (by omega), if_neg h3, g1, ob]
    dsimp +instances only
    rw [wI_of (x := (t : Int)) (by omega) (by omega), if_pos (by omega), sp_six _ (by omega), ob]
    dsimp only
    rw [m3_66, Int.toNat_natCast, e1, sp_parts _ (by omega) hu2, ob, hx, hy]
  exact st_told I c0 a2 m0 (m3_K _ _ _ _)
theorem eq_met {M : am_M} (I : Inv M) {p n : Int} (hp : iR p) (hn : iR n) : Step (X_X8_met_0 p n) (X_X9_met_53 p n) M := gd_met I hp hn fun h1 h2 h3 => by
  obtain ⟨t, rfl⟩ := Int.eq_ofNat_of_zero_le h1.1
  obtain ⟨n, rfl⟩ := Int.eq_ofNat_of_zero_le h2.1
  have rs := I.rs
  obtain ⟨N1, a1, a2⟩ := sp_meeting I.b.c (t := t) (by omega) (n := n) (by omega)
  obtain ⟨u, hu, hu2⟩ := fv_n I.b.c t (n := n) (q := t) (by omega) (by omega)
  rw [hu] at a1
  obtain ⟨x, hx⟩ : ∃ x : Int, x = ((rd_ (4 * n) u).1 : Int) := ⟨_, rfl⟩
  obtain ⟨y, hy⟩ : ∃ y : Int, y = ((rd_ (4 * n) u).2 : Int) := ⟨_, rfl⟩
  have c0 : X_X8_met_0 t n M = some (1, cUl x y N1) := by
    rw [X_X8_met_0, sp_isPlace_11 I.g11 hp, b2_t h1, ob]
    dsimp +instances only
    rw [if_neg (by decide), sp_isChance M hn, b2_t h2, ob]
    dsimp +instances only
    rw [if_neg (by decide), sp_hasNoLand I.g11, b2_f h3, ob]
    dsimp +instances only
    rw [if_pos wI_0, a1, ob]
    dsimp only
    rw [sp_pin N1 (by omega), ob]
    dsimp only
    rw [sp_tellC N1 (by omega) hu2, ob, hx, hy]
  have kc : Kc M (cUl x y N1) := a2.b.c.tr (Kb.cu x y N1).c
  have e53 : (cUl x y N1) 53 1 = M 11 0 := by rw [kc.2.1, I.es]
  obtain ⟨a, b, P, g1, g2, -⟩ := sp_chances (Kc.ic I.b.c kc) (stop := t) (strip := -1) (by omega) (Or.inl rfl) (fun h => absurd h (by decide)) (n := n) (by omega)
  have e1 : a t = (u : Int) := by rw [g2 t (by omega), fv_k kc, hu]
  have m0 : X_X9_met_53 t n (cUl x y N1) = some (1, mUl x y (mem3 (cUl x y N1) a b P)) := by
    rw [X_X9_met_53, sp_isPlace (by rw [e53]; exact rs) hp, e53, b2_t h1, ob]
    dsimp +instances only
    rw [if_neg (by decide), wI_R hn, sp_in _ hn i0 i6, b2_t h2, ob]
    dsimp +instances only
    rw [if_neg (by decide), e53, wI_of (x := M 11 0) (by omega) (by omega), if_neg h3, g1, ob]
    dsimp +instances only
    rw [wI_of (x := (t : Int)) (by omega) (by omega), if_pos (by omega), sp_six _ (by omega), ob]
    dsimp only
    rw [m3_66, Int.toNat_natCast, e1, sp_parts _ (by omega) hu2, ob, hx, hy]
  exact st_told I c0 a2 m0 (m3_K _ _ _ _)
theorem pv_r {M : am_M} (I : Ib M) (i : Int) : ∀ n, 0 ≤ pv M (db_ M i) n ∧ pv M (db_ M i) n ≤ 5000 * 208 ^ n
  | 0 => by unfold pv; decide
  | n + 1 => by
    have h := pv_r I i n
    have rs := I.rs
    have hp : (0 : Int) ≤ 208 ^ (n + 1) := by have := fv_r I.c (-1) (n + 1) 0 (by omega); omega
    have hd : 0 ≤ dot (M 11 0) (fv M (-1) (n + 1)) (tx (M 14 0 + n) (db_ M i)) ∧ dot (M 11 0) (fv M (-1) (n + 1)) (tx (M 14 0 + n) (db_ M i)) ≤ 324 * 208 ^ (n + 1) * 13 := by
      unfold dot
      have key : ∀ (d i0 : Nat), i0 + d ≤ 13 → 0 ≤ sf (fun q => fv M (-1) (n + 1) q * tx (M 14 0 + n) (db_ M i) q) i0 d ∧ sf (fun q => fv M (-1) (n + 1) q * tx (M 14 0 + n) (db_ M i) q) i0 d ≤ 324 * 208 ^ (n + 1) * d := by
        intro d
        induction d with
        | zero => intro i0 _; simp [sf]
        | succ d ih =>
          intro i0 hi0
          have h1 := ih (i0 + 1) (by omega)
          have h2 := fv_r I.c (-1) (n + 1) i0 (by omega)
          have h3 : 0 ≤ tx (M 14 0 + n) (db_ M i) i0 ∧ tx (M 14 0 + n) (db_ M i) i0 ≤ 324 := by
            have := db_r I i i0
            unfold tx
            split <;> omega
          have h4 : 0 ≤ fv M (-1) (n + 1) i0 * tx (M 14 0 + n) (db_ M i) i0 := Int.mul_nonneg h2.1 h3.1
          have h5 : fv M (-1) (n + 1) i0 * tx (M 14 0 + n) (db_ M i) i0 ≤ 208 ^ (n + 1) * 324 := Int.le_trans (Int.mul_le_mul_of_nonneg_right h2.2 h3.1) (Int.mul_le_mul_of_nonneg_left h3.2 hp)
          simp only [sf]
          rw [Int.natCast_succ, Int.mul_add, Int.mul_one]
          rw [Int.mul_comm (208 ^ (n + 1)) 324] at h5
          omega
      have h0 := key (M 11 0 + 1).toNat 0 (by omega)
      refine ⟨h0.1, Int.le_trans h0.2 (Int.mul_le_mul_of_nonneg_left (by omega) (by omega))⟩
    unfold pv
    have e : (208 : Int) ^ (n + 1) = 208 ^ n * 208 := Int.pow_succ 208 n
    generalize dot (M 11 0) (fv M (-1) (n + 1)) (tx (M 14 0 + n) (db_ M i)) = X at hd ⊢
    generalize pv M (db_ M i) n = Y at h ⊢
    rw [e] at hd hp ⊢
    generalize (208 : Int) ^ n = T at h hd hp ⊢
    omega
theorem eq_hedge {M : am_M} (I : Inv M) {i n : Int} (hi : iR i) (hn : iR n) : Step (X_X8_hedge_0 i n) (X_X9_hedge_53 i n) M := gd_hedge I hi hn fun h1 h2 => by
  obtain ⟨n, rfl⟩ := Int.eq_ofNat_of_zero_le h2.1
  have rs := I.rs
  obtain ⟨N1, a1, a2⟩ := sp_duesOf I.b.c h1 (n := n) (by omega)
  obtain ⟨u, hu, hu2⟩ : ∃ u : Nat, pv M (db_ M i) n = u ∧ u < 4611686018427387904 := by
    have h := pv_r I.b i n
    have hp := p208 n (by omega)
    obtain ⟨u, hu⟩ := Int.eq_ofNat_of_zero_le h.1
    exact ⟨u, hu, by omega⟩
  rw [hu] at a1
  obtain ⟨x, hx⟩ : ∃ x : Int, x = ((rd_ (4 * n) u).1 : Int) := ⟨_, rfl⟩
  obtain ⟨y, hy⟩ : ∃ y : Int, y = ((rd_ (4 * n) u).2 : Int) := ⟨_, rfl⟩
  have c0 : X_X8_hedge_0 i n M = some (1, cUl x y N1) := by
    rw [X_X8_hedge_0, sp_has_11 I.g11 hi, b2_t h1, ob]
    dsimp +instances only
    rw [if_neg (by decide), sp_isChance M hn, b2_t h2, ob]
    dsimp +instances only
    rw [if_neg (by decide), a1, ob]
    dsimp only
    rw [sp_pin N1 (by omega), ob]
    dsimp only
    rw [sp_tellC N1 (by omega) hu2, ob, hx, hy]
  have kc : Kc M (cUl x y N1) := a2.b.c.tr (Kb.cu x y N1).c
  have e53 : (cUl x y N1) 53 1 = M 11 0 := by rw [kc.2.1, I.es]
  obtain ⟨a, b, P, g1, -, g3⟩ := sp_chances (Kc.ic I.b.c kc) (stop := -1) (strip := i) (by decide) (Or.inr (by rw [kc.1 11 (by decide)]; exact h1)) (fun _ => rfl) (n := n) (by omega)
  have e1 : P = (u : Int) := by rw [g3 h1.1, kc.db, pv_k kc, hu]
  have m0 : X_X9_hedge_53 i n (cUl x y N1) = some (1, mUl x y (mem3 (cUl x y N1) a b P)) := by
    rw [X_X9_hedge_53, sp_isStrip (by rw [e53]; exact rs) hi, e53, b2_t h1, ob]
    dsimp +instances only
    rw [if_neg (by decide), wI_R hn, sp_in _ hn i0 i6, b2_t h2, ob]
    dsimp +instances only
    rw [if_neg (by decide), g1, ob]
    dsimp +instances only
    rw [sp_six _ (by omega), ob]
    dsimp only
    rw [m3_27, e1, sp_parts _ (by omega) hu2, ob, hx, hy]
  exact st_told I c0 a2 m0 (m3_K _ _ _ _)
end
section
/-! What to say by turns. -/
/-- the first of 0 .. 3 at which f is least -/
noncomputable def sel (f : Int → Int) (b s : Int) : Int := if f b < f s then b else s
theorem sel_r {f : Int → Int} {b s : Int} (hb : 0 ≤ b ∧ b ≤ 3) (hs : 0 ≤ s ∧ s ≤ 3) : 0 ≤ sel f b s ∧ sel f b s ≤ 3 := by
  unfold sel
  split
  · exact hb
  · exact hs
noncomputable def pk (f : Int → Int) : Int := sel f 3 (sel f 2 (sel f 1 0))
theorem pk_r (f : Int → Int) : 0 ≤ pk f ∧ pk f ≤ 3 := sel_r (by decide) (sel_r (by decide) (sel_r (by decide) (by decide)))
noncomputable def gb (af : Int → Int → Int → Int → Int) (w d : Int) (V : Int → Int) (k : Nat) (p a b : Int) : Int := w * (a - b) + V (af p (d + k) a b)
noncomputable def vl (af : Int → Int → Int → Int → Int) (w d : Int) (V : Int → Int) (k : Nat) (p a : Int) : Int := gb af w d V k p a (pk (gb af w d V k p a))
noncomputable def ft (af : Int → Int → Int → Int → Int) (w d : Int) (V : Int → Int) (k : Nat) (p : Int) : Int := pk (fun a => -(vl af w d V k p a))
noncomputable def uG (af : Int → Int → Int → Int → Int) (w d s : Int) : Nat → Nat → Int → Int
  | 0, _, p => 2 * p - s
  | e + 1, k, p => vl af w d (uG af w d s e (k + 1)) k p (ft af w d (uG af w d s e (k + 1)) k p)
theorem wab {w t : Int} (hw : 0 ≤ w ∧ w ≤ 9) (ht : -3 ≤ t ∧ t ≤ 3) : -27 ≤ w * t ∧ w * t ≤ 27 := by
  rcases (show t = -3 ∨ t = -2 ∨ t = -1 ∨ t = 0 ∨ t = 1 ∨ t = 2 ∨ t = 3 by omega) with rfl | rfl | rfl | rfl | rfl | rfl | rfl <;> omega
theorem gb_r {M : am_M} {w d : Int} {V : Int → Int} {B : Int} (hw : 0 ≤ w ∧ w ≤ 9) (hV : ∀ q, 0 ≤ q ∧ q ≤ M 11 0 → -B ≤ V q ∧ V q ≤ B) {k : Nat} {p a b : Int} (hp : 0 ≤ p ∧ p ≤ M 11 0) (ha : 0 ≤ a ∧ a ≤ 3) (hb : 0 ≤ b ∧ b ≤ 3) : -(B + 27) ≤ gb (af_ M) w d V k p a b ∧ gb (af_ M) w d V k p a b ≤ B + 27 := by
  have h1 := wab hw (t := a - b) (by omega)
  have h2 := hV _ (af_r (M := M) (d := d + k) (x := a) (y := b) hp)
  unfold gb
  omega
theorem uG_r {M : am_M} (I : Ic M) {w d : Int} (hw : 0 ≤ w ∧ w ≤ 9) : ∀ (e k : Nat) (p : Int), 0 ≤ p ∧ p ≤ M 11 0 → -(12 + 27 * (e : Int)) ≤ uG (af_ M) w d (M 11 0) e k p ∧ uG (af_ M) w d (M 11 0) e k p ≤ 12 + 27 * (e : Int)
  | 0, k, p, hp => by have := I.rs; unfold uG; omega
  | e + 1, k, p, hp => by
    have h := gb_r (d := d) (k := k) (V := uG (af_ M) w d (M 11 0) e (k + 1)) (B := 12 + 27 * (e : Int)) hw (fun q hq => uG_r I hw e (k + 1) q hq) hp (pk_r (fun a => -(vl (af_ M) w d (uG (af_ M) w d (M 11 0) e (k + 1)) k p a))) (pk_r (gb (af_ M) w d (uG (af_ M) w d (M 11 0) e (k + 1)) k p (ft (af_ M) w d (uG (af_ M) w d (M 11 0) e (k + 1)) k p)))
    unfold uG vl
    push_cast
    have e1 : (12 : Int) + 27 * (e : Int) + 27 = 12 + 27 * ((e : Int) + 1) := by omega
    rw [e1] at h
    exact h
/-! the class -/
/-- the game stands ready: the land, the price -/
noncomputable def GmI (M : am_M) (w : Int) : Prop := Ic M ∧ M 44 4 = w ∧ 0 ≤ w ∧ w ≤ 9
theorem c_slot7 {k p : Nat} (hk : k ≤ 4) (hp : p < 13) (M : am_M) : X_X7_isSlot k p M = some (1, M) := by
  rw [X_X7_isSlot, wI_of (x := (k : Int)) (by omega) (by omega), wI_of (x := (p : Int)) (by omega) (by omega), if_neg (by omega), if_neg (by omega), if_neg (by omega), if_pos (by omega)]
theorem c_worth {k p : Nat} (hk : k ≤ 4) (hp : p < 13) (M : am_M) : X_X7_worthOf_44 k p M = some (M 45 (13 * k + p), M) := by
  have e : ∀ _ : Unit, wI ((k : Int) * 13 + p) = ((13 * k + p : Nat) : Int) := fun _ => by rw [wI_of (by omega) (by omega)]; push_cast; omega
  rw [X_X7_worthOf_44, c_slot7 hk hp, ob]
  dsimp +instances only
  rw [if_neg (by decide), e (), if_pos (by omega), Int.toNat_natCast]
theorem c_saying {k p : Nat} (hk : k ≤ 4) (hp : p < 13) (M : am_M) : X_X7_bestSaying_44 k p M = some (M 46 (13 * k + p), M) := by
  have e : ∀ _ : Unit, wI ((k : Int) * 13 + p) = ((13 * k + p : Nat) : Int) := fun _ => by rw [wI_of (by omega) (by omega)]; push_cast; omega
  rw [X_X7_bestSaying_44, c_slot7 hk hp, ob]
  dsimp +instances only
  rw [if_neg (by decide), e (), if_pos (by omega), Int.toNat_natCast]
theorem c_note {k p : Nat} (hk : k ≤ 4) (hp : p < 13) (v s : Int) (M : am_M) : X_X7_note_44 k p v s M = some (0, am_up (am_up M 45 (13 * k + p) v) 46 (13 * k + p) s) := by
  have e : ∀ _ : Unit, wI ((k : Int) * 13 + p) = ((13 * k + p : Nat) : Int) := fun _ => by rw [wI_of (by omega) (by omega)]; push_cast; omega
  rw [X_X7_note_44, c_slot7 hk hp, ob]
  dsimp +instances only
  rw [if_neg (by decide), e (), if_pos (by omega), if_pos (by omega), Int.toNat_natCast]
theorem c_wob {M : am_M} {w : Int} (G : GmI M w) {V : Int → Int} {k : Nat} (hk : k < 4) (hV : ∀ q : Nat, (q : Int) ≤ M 11 0 → M 45 (13 * (k + 1) + q) = V q) {p a b : Int} (hp : 0 ≤ p ∧ p ≤ M 11 0) (ha : 0 ≤ a ∧ a ≤ 3) (hb : 0 ≤ b ∧ b ≤ 3) : X_X7_worthOfBoth_44 k p a b M = some (gb (af_ M) w (M 14 0) V k p a b, M) := by
  have r0 := G.1.r0
  have rs := G.1.rs
  have hr := af_r (M := M) (d := M 14 0 + k) (x := a) (y := b) hp
  obtain ⟨t, ht⟩ := Int.eq_ofNat_of_zero_le hr.1
  rw [X_X7_worthOfBoth_44, kc_aft G.1 hp (by omega) ha hb, ob]
  dsimp only
  rw [ht, ← Int.natCast_succ, c_worth (by omega) (by omega), ob]
  dsimp only
  rw [G.2.1, hV t (by omega)]
  unfold gb
  rw [ht]
theorem c_br1 (k5 : Int → am_M → am_Rs) {M : am_M} {w : Int} (G : GmI M w) {V : Int → Int} {k : Nat} (hk : k < 4) (hV : ∀ q : Nat, (q : Int) ≤ M 11 0 → M 45 (13 * (k + 1) + q) = V q) (hO : ∀ q, 0 ≤ q ∧ q ≤ M 11 0 → -200 ≤ V q ∧ V q ≤ 200) {p a b s : Int} (hp : 0 ≤ p ∧ p ≤ M 11 0) (ha : 0 ≤ a ∧ a ≤ 3) (hb : 0 ≤ b ∧ b ≤ 3) (hs : 0 ≤ s ∧ s ≤ 3) (n : Nat) : XL_X7_bestReply_44_1 k5 (n + 1) k p a s (gb (af_ M) w (M 14 0) V k p a s) b M = XL_X7_bestReply_44_1 k5 n k p a (sel (gb (af_ M) w (M 14 0) V k p a) b s) (gb (af_ M) w (M 14 0) V k p a (sel (gb (af_ M) w (M 14 0) V k p a) b s)) (b + 1) M := by
  have h1 := gb_r (d := M 14 0) (k := k) G.2.2 hO hp ha hb
  have h2 := gb_r (d := M 14 0) (k := k) G.2.2 hO hp ha hs
  rw [XL_X7_bestReply_44_1, XB_X7_bestReply_44_1, wI_of (x := b) (by omega) (by omega), if_neg (by omega), c_wob G hk hV hp ha hb, ob]
  dsimp +instances only
  unfold sel
  generalize hx : gb (af_ M) w (M 14 0) V k p a b = x at h1 ⊢
  generalize hy : gb (af_ M) w (M 14 0) V k p a s = y at h2 ⊢
  rw [wI_of (x := x) (by omega) (by omega), wI_of (x := y) (by omega) (by omega)]
  by_cases c : x < y
  · rw [if_pos c, if_pos c, hx]
  · rw [if_neg c, if_neg c, hy]
theorem c_reply {M : am_M} {w : Int} (G : GmI M w) {V : Int → Int} {k : Nat} (hk : k < 4) (hV : ∀ q : Nat, (q : Int) ≤ M 11 0 → M 45 (13 * (k + 1) + q) = V q) (hO : ∀ q, 0 ≤ q ∧ q ≤ M 11 0 → -200 ≤ V q ∧ V q ≤ 200) {p a : Int} (hp : 0 ≤ p ∧ p ≤ M 11 0) (ha : 0 ≤ a ∧ a ≤ 3) : X_X7_bestReply_44 k p a M = some (pk (gb (af_ M) w (M 14 0) V k p a), M) := by
  generalize hf : gb (af_ M) w (M 14 0) V k p a = f
  have st : ∀ (n : Nat) (s b : Int), 0 ≤ s ∧ s ≤ 3 → 0 ≤ b ∧ b ≤ 3 → XL_X7_bestReply_44_1 XB_X7_bestReply_44_5 (n + 1) k p a s (f s) b M = XL_X7_bestReply_44_1 XB_X7_bestReply_44_5 n k p a (sel f b s) (f (sel f b s)) (b + 1) M := fun n s b hs hb => by
    have := c_br1 XB_X7_bestReply_44_5 G hk hV hO hp ha hb hs n
    rw [hf] at this
    exact this
  have e0 : X_X7_worthOfBoth_44 k p a 0 M = some (f 0, M) := by rw [c_wob G hk hV hp ha (by decide), hf]
  have e1 : XL_X7_bestReply_44_1 XB_X7_bestReply_44_5 1000 k p a 0 (f 0) 1 M = _ := st 999 0 1 (by decide) (by decide)
  have e2 : XL_X7_bestReply_44_1 XB_X7_bestReply_44_5 999 k p a (sel f 1 0) (f (sel f 1 0)) (1 + 1) M = XL_X7_bestReply_44_1 XB_X7_bestReply_44_5 998 k p a (sel f 2 (sel f 1 0)) (f (sel f 2 (sel f 1 0))) (2 + 1) M := st 998 (sel f 1 0) 2 (sel_r (by decide) (by decide)) (by decide)
  have e3 : XL_X7_bestReply_44_1 XB_X7_bestReply_44_5 998 k p a (sel f 2 (sel f 1 0)) (f (sel f 2 (sel f 1 0))) (2 + 1) M = XL_X7_bestReply_44_1 XB_X7_bestReply_44_5 997 k p a (sel f 3 (sel f 2 (sel f 1 0))) (f (sel f 3 (sel f 2 (sel f 1 0)))) (3 + 1) M := st 997 (sel f 2 (sel f 1 0)) 3 (sel_r (by decide) (sel_r (by decide) (by decide))) (by decide)
  rw [X_X7_bestReply_44, XB_X7_bestReply_44_e, e0, ob]
  dsimp only
  rw [e1, e2, e3, XL_X7_bestReply_44_1, XB_X7_bestReply_44_1, if_pos (by decide)]
  rfl
theorem c_ch1 (k6 : Int → Int → Int → Int → am_M → am_Rs) {M : am_M} {w : Int} (G : GmI M w) {V : Int → Int} {k : Nat} (hk : k < 4) (hV : ∀ q : Nat, (q : Int) ≤ M 11 0 → M 45 (13 * (k + 1) + q) = V q) (hO : ∀ q, 0 ≤ q ∧ q ≤ M 11 0 → -200 ≤ V q ∧ V q ≤ 200) {p a s y : Int} (hp : 0 ≤ p ∧ p ≤ M 11 0) (ha : 0 ≤ a ∧ a ≤ 3) (hs : 0 ≤ s ∧ s ≤ 3) (hy : a = 0 ∨ y = vl (af_ M) w (M 14 0) V k p s) (n : Nat) : XL_X7_choose_44_1 k6 (n + 1) k p s y a M = XL_X7_choose_44_1 k6 n k p (if a = 0 ∨ -(vl (af_ M) w (M 14 0) V k p a) < -(vl (af_ M) w (M 14 0) V k p s) then a else s) (vl (af_ M) w (M 14 0) V k p (if a = 0 ∨ -(vl (af_ M) w (M 14 0) V k p a) < -(vl (af_ M) w (M 14 0) V k p s) then a else s)) (a + 1) M := by
  have h1 := gb_r (d := M 14 0) (k := k) G.2.2 hO hp ha (pk_r (gb (af_ M) w (M 14 0) V k p a))
  have h2 := gb_r (d := M 14 0) (k := k) G.2.2 hO hp hs (pk_r (gb (af_ M) w (M 14 0) V k p s))
  have e2 : X_X7_worthOfBoth_44 k p a (pk (gb (af_ M) w (M 14 0) V k p a)) M = some (vl (af_ M) w (M 14 0) V k p a, M) := c_wob G hk hV hp ha (pk_r _)
  rw [XL_X7_choose_44_1, XB_X7_choose_44_1, wI_of (x := a) (by omega) (by omega), if_neg (by omega), c_reply G hk hV hO hp ha, ob]
  dsimp only
  rw [e2, ob]
  dsimp +instances only
  change -(200 + 27) ≤ vl (af_ M) w (M 14 0) V k p a ∧ vl (af_ M) w (M 14 0) V k p a ≤ 200 + 27 at h1
  change -(200 + 27) ≤ vl (af_ M) w (M 14 0) V k p s ∧ vl (af_ M) w (M 14 0) V k p s ≤ 200 + 27 at h2
  generalize hx : vl (af_ M) w (M 14 0) V k p a = x at h1 ⊢
  generalize hz : vl (af_ M) w (M 14 0) V k p s = z at h2 hy ⊢
  by_cases c : a = 0
  · rw [if_pos c, if_pos (Or.inl c), hx]
  · have hy2 : y = z := hy.resolve_left c
    subst hy2
    rw [if_neg c, wI_of (x := x) (by omega) (by omega), wI_of (x := y) (by omega) (by omega)]
    by_cases c2 : y < x
    · rw [if_pos c2, if_pos (Or.inr (by omega)), hx]
    · rw [if_neg c2, if_neg (by omega), hz]
theorem c_choose {M : am_M} {w : Int} (G : GmI M w) {V : Int → Int} {k : Nat} (hk : k < 4) (hV : ∀ q : Nat, (q : Int) ≤ M 11 0 → M 45 (13 * (k + 1) + q) = V q) (hO : ∀ q, 0 ≤ q ∧ q ≤ M 11 0 → -200 ≤ V q ∧ V q ≤ 200) {p : Nat} (hp : (p : Int) ≤ M 11 0) : X_X7_choose_44 k p M = some (0, am_up (am_up M 45 (13 * k + p) (vl (af_ M) w (M 14 0) V k p (ft (af_ M) w (M 14 0) V k p))) 46 (13 * k + p) (ft (af_ M) w (M 14 0) V k p)) := by
  have rs := G.1.rs
  have hp2 : 0 ≤ (p : Int) ∧ (p : Int) ≤ M 11 0 := by omega
  have st := fun (n : Nat) (s a y : Int) (hs : 0 ≤ s ∧ s ≤ 3) (ha : 0 ≤ a ∧ a ≤ 3) (hy : a = 0 ∨ y = vl (af_ M) w (M 14 0) V k p s) => c_ch1 XB_X7_choose_44_6 G hk hV hO hp2 ha hs hy n
  unfold ft
  generalize hf : vl (af_ M) w (M 14 0) V k p = f at st ⊢
  have e0 : XL_X7_choose_44_1 XB_X7_choose_44_6 1000 k p 0 0 0 M = XL_X7_choose_44_1 XB_X7_choose_44_6 999 k p 0 (f 0) (0 + 1) M := by
    have h := st 999 0 0 0 (by decide) (by decide) (Or.inl rfl)
    rw [if_pos (Or.inl rfl)] at h
    exact h
  obtain ⟨g, hg⟩ : ∃ g : Int → Int, g = fun a => -(f a) := ⟨_, rfl⟩
  rw [← hg]
  have tl : ∀ (n : Nat) (s a : Int), 0 ≤ s ∧ s ≤ 3 → 1 ≤ a ∧ a ≤ 3 → XL_X7_choose_44_1 XB_X7_choose_44_6 (n + 1) k p s (f s) a M = XL_X7_choose_44_1 XB_X7_choose_44_6 n k p (sel g a s) (f (sel g a s)) (a + 1) M := fun n s a hs ha => by
    have h := st n s a (f s) hs (by omega) (Or.inr rfl)
    have e : (if a = 0 ∨ -(f a) < -(f s) then a else s) = sel g a s := by
      unfold sel
      rw [hg]
      by_cases c : -(f a) < -(f s)
      · rw [if_pos (Or.inr c), if_pos c]
      · rw [if_neg (by omega), if_neg c]
    rw [e] at h
    exact h
  have e1 : XL_X7_choose_44_1 XB_X7_choose_44_6 999 k p 0 (f 0) (0 + 1) M = XL_X7_choose_44_1 XB_X7_choose_44_6 998 k p (sel g 1 0) (f (sel g 1 0)) (1 + 1) M := tl 998 0 1 (by decide) (by decide)
  have e2 : XL_X7_choose_44_1 XB_X7_choose_44_6 998 k p (sel g 1 0) (f (sel g 1 0)) (1 + 1) M = XL_X7_choose_44_1 XB_X7_choose_44_6 997 k p (sel g 2 (sel g 1 0)) (f (sel g 2 (sel g 1 0))) (2 + 1) M := tl 997 (sel g 1 0) 2 (sel_r (by decide) (by decide)) (by decide)
  have e3 : XL_X7_choose_44_1 XB_X7_choose_44_6 997 k p (sel g 2 (sel g 1 0)) (f (sel g 2 (sel g 1 0))) (2 + 1) M = XL_X7_choose_44_1 XB_X7_choose_44_6 996 k p (pk g) (f (pk g)) (3 + 1) M := tl 996 (sel g 2 (sel g 1 0)) 3 (sel_r (by decide) (sel_r (by decide) (by decide))) (by decide)
  rw [X_X7_choose_44, XB_X7_choose_44_e, e0, e1, e2, e3, XL_X7_choose_44_1, XB_X7_choose_44_1, if_pos (by decide), XB_X7_choose_44_6, c_note (by omega) (by omega), ob]
/-- tables laid from row k0 on -/
noncomputable def Tg (s : Int) (U : Nat → Int → Int) (n k0 : Nat) (f : Nat → Int) : Prop := ∀ k, k0 ≤ k → k ≤ n → ∀ p : Nat, (p : Int) ≤ s → f (13 * k + p) = U k p
noncomputable def Ts (s : Int) (S : Nat → Int → Int) (n k0 : Nat) (g : Nat → Int) : Prop := ∀ k, k0 ≤ k → k < n → ∀ p : Nat, (p : Int) ≤ s → g (13 * k + p) = S k p
theorem up2 (N : am_M) (f g : Nat → Int) (j : Nat) (x y : Int) : am_up (am_up (am_row (am_row N 45 f) 46 g) 45 j x) 46 j y = am_row (am_row N 45 fun i => if i = j then x else f i) 46 fun i => if i = j then y else g i := by
  rw [up_row, up_row, row_a (show 45 ≠ 46 by decide), row_s, row_a (show 46 ≠ 45 by decide), row_s, row_c (M := N) (a := 45) (b := 46) (by decide), row_row, row_c (a := 46) (b := 45) (by decide), row_row]
theorem lp_g1 (kk : Int → am_M → am_Rs) {N : am_M} (I : Ic N) {n : Nat} (hn : n ≤ 4) : ∀ (e n1 i : Nat) (f g : Nat → Int), (i : Int) + e = N 11 0 + 1 → e < n1 → (∀ p : Nat, p < i → f (13 * n + p) = 2 * (p : Int) - N 11 0) → ∃ f' g', XL_X7_solve_44_1 kk n1 n i (am_row (am_row N 45 f) 46 g) = kk n (am_row (am_row N 45 f') 46 g') ∧ ∀ p : Nat, (p : Int) ≤ N 11 0 → f' (13 * n + p) = 2 * (p : Int) - N 11 0 := by
  intro e
  induction e with
  | zero =>
    intro n1 i f g hi hn1 hf
    have rs := I.rs
    obtain ⟨n1, rfl⟩ : ∃ m, n1 = m + 1 := ⟨n1 - 1, by omega⟩
    refine ⟨f, g, ?_, fun p hp => hf p (by omega)⟩
    rw [XL_X7_solve_44_1, XB_X7_solve_44_1, show (am_row (am_row N 45 f) 46 g) 11 0 = N 11 0 from rfl, wI_of (x := (i : Int)) (by omega) (by omega), wI_of (x := N 11 0) (by omega) (by omega), if_pos (by omega)]
  | succ e ih =>
    intro n1 i f g hi hn1 hf
    have rs := I.rs
    obtain ⟨n1, rfl⟩ : ∃ m, n1 = m + 1 := ⟨n1 - 1, by omega⟩
    obtain ⟨f', g', a1, a2⟩ := ih n1 (i + 1) (fun j => if j = 13 * n + i then 2 * (i : Int) - N 11 0 else f j) (fun j => if j = 13 * n + i then 0 else g j) (by push_cast; omega) (by omega) (fun p hp => by
      by_cases c : p = i
      · subst c; rw [if_pos rfl]
      · rw [if_neg (by omega)]; exact hf p (by omega))
    refine ⟨f', g', ?_, a2⟩
    rw [XL_X7_solve_44_1, XB_X7_solve_44_1, show (am_row (am_row N 45 f) 46 g) 11 0 = N 11 0 from rfl, wI_of (x := (i : Int)) (by omega) (by omega), wI_of (x := N 11 0) (by omega) (by omega), if_neg (by omega), c_note (by omega) (by omega), ob, up2]
    exact a1
theorem lp_g6 (kk : Int → am_M → am_Rs) {N : am_M} {w : Int} (G : GmI N w) {U S : Nat → Int → Int} {n k : Nat} (hn : n ≤ 4) (hk : k < n) (hU : ∀ p, U k p = vl (af_ N) w (N 14 0) (U (k + 1)) k p (S k p)) (hS : ∀ p, S k p = ft (af_ N) w (N 14 0) (U (k + 1)) k p) (hO : ∀ q, 0 ≤ q ∧ q ≤ N 11 0 → -200 ≤ U (k + 1) q ∧ U (k + 1) q ≤ 200) : ∀ (e n1 i : Nat) (f g : Nat → Int), (i : Int) + e = N 11 0 + 1 → e < n1 → Tg (N 11 0) U n (k + 1) f → Ts (N 11 0) S n (k + 1) g → (∀ p : Nat, p < i → f (13 * k + p) = U k p ∧ g (13 * k + p) = S k p) → ∃ f' g', XL_X7_solve_44_6 kk n1 k i (am_row (am_row N 45 f) 46 g) = kk k (am_row (am_row N 45 f') 46 g') ∧ Tg (N 11 0) U n k f' ∧ Ts (N 11 0) S n k g' := by
  intro e
  induction e with
  | zero =>
    intro n1 i f g hi hn1 hT hT2 hf
    have rs := G.1.rs
    obtain ⟨n1, rfl⟩ : ∃ m, n1 = m + 1 := ⟨n1 - 1, by omega⟩
    refine ⟨f, g, ?_, fun k' h1 h2 p hp => ?_, fun k' h1 h2 p hp => ?_⟩
    · rw [XL_X7_solve_44_6, XB_X7_solve_44_6, show (am_row (am_row N 45 f) 46 g) 11 0 = N 11 0 from rfl, wI_of (x := (i : Int)) (by omega) (by omega), wI_of (x := N 11 0) (by omega) (by omega), if_pos (by omega)]
    · rcases Nat.lt_or_eq_of_le h1 with h | h
      · exact hT k' h h2 p hp
      · subst h; exact (hf p (by omega)).1
    · rcases Nat.lt_or_eq_of_le h1 with h | h
      · exact hT2 k' h h2 p hp
      · subst h; exact (hf p (by omega)).2
  | succ e ih =>
    intro n1 i f g hi hn1 hT hT2 hf
    have rs := G.1.rs
    obtain ⟨n1, rfl⟩ : ∃ m, n1 = m + 1 := ⟨n1 - 1, by omega⟩
    obtain ⟨f', g', a1, a2, a3⟩ := ih n1 (i + 1) (fun j => if j = 13 * k + i then U k i else f j) (fun j => if j = 13 * k + i then S k i else g j) (by push_cast; omega) (by omega) (fun k' h1 h2 p hp => by show (if 13 * k' + p = 13 * k + i then _ else _) = _; rw [if_neg (by omega)]; exact hT k' h1 h2 p hp) (fun k' h1 h2 p hp => by show (if 13 * k' + p = 13 * k + i then _ else _) = _; rw [if_neg (by omega)]; exact hT2 k' h1 h2 p hp) (fun p hp => by
      by_cases c : p = i
      · subst c; rw [if_pos rfl, if_pos rfl]; exact ⟨rfl, rfl⟩
      · rw [if_neg (by omega), if_neg (by omega)]; exact hf p (by omega))
    refine ⟨f', g', ?_, a2, a3⟩
    have G' : GmI (am_row (am_row N 45 f) 46 g) w := ⟨Kc.ic G.1 ((Kc.row (by decide)).tr (Kc.row (by decide))), G.2.1, G.2.2⟩
    have ch : X_X7_choose_44 k i (am_row (am_row N 45 f) 46 g) = some (0, am_up (am_up (am_row (am_row N 45 f) 46 g) 45 (13 * k + i) (vl (af_ N) w (N 14 0) (U (k + 1)) k i (ft (af_ N) w (N 14 0) (U (k + 1)) k i))) 46 (13 * k + i) (ft (af_ N) w (N 14 0) (U (k + 1)) k i)) := c_choose G' (by omega) (V := U (k + 1)) (fun q hq => hT (k + 1) (by omega) (by omega) q hq) hO (p := i) (show (i : Int) ≤ N 11 0 by omega)
    rw [← hS, ← hU, up2] at ch
    rw [XL_X7_solve_44_6, XB_X7_solve_44_6, show (am_row (am_row N 45 f) 46 g) 11 0 = N 11 0 from rfl, wI_of (x := (i : Int)) (by omega) (by omega), wI_of (x := N 11 0) (by omega) (by omega), if_neg (by omega), ch, ob]
    exact a1
theorem lp_g4 (kk : am_M → am_Rs) {N : am_M} {w : Int} (G : GmI N w) {U S : Nat → Int → Int} {n : Nat} (hn : n ≤ 4) (hU : ∀ k, k < n → ∀ p, U k p = vl (af_ N) w (N 14 0) (U (k + 1)) k p (S k p)) (hS : ∀ k, k < n → ∀ p, S k p = ft (af_ N) w (N 14 0) (U (k + 1)) k p) (hO : ∀ k q, 0 ≤ q ∧ q ≤ N 11 0 → -200 ≤ U k q ∧ U k q ≤ 200) : ∀ (e n1 : Nat) (f g : Nat → Int), e ≤ n → e < n1 → Tg (N 11 0) U n e f → Ts (N 11 0) S n e g → ∃ f' g', XL_X7_solve_44_4 kk n1 ((e : Int) - 1) (am_row (am_row N 45 f) 46 g) = kk (am_row (am_row N 45 f') 46 g') ∧ Tg (N 11 0) U n 0 f' ∧ Ts (N 11 0) S n 0 g' := by
  intro e
  induction e with
  | zero =>
    intro n1 f g he hn1 hT hT2
    obtain ⟨n1, rfl⟩ : ∃ m, n1 = m + 1 := ⟨n1 - 1, by omega⟩
    refine ⟨f, g, ?_, hT, hT2⟩
    rw [XL_X7_solve_44_4, XB_X7_solve_44_4, if_pos (by decide)]
  | succ e ih =>
    intro n1 f g he hn1 hT hT2
    have rs := G.1.rs
    obtain ⟨n1, rfl⟩ : ∃ m, n1 = m + 1 := ⟨n1 - 1, by omega⟩
    obtain ⟨f1, g1, a1, a2, a3⟩ := lp_g6 (XB_X7_solve_44_8 (XL_X7_solve_44_4 kk n1)) G (U := U) (S := S) (n := n) (k := e) hn (by omega) (hU e (by omega)) (hS e (by omega)) (hO (e + 1)) (N 11 0 + 1).toNat 1000 0 f g (by omega) (by omega) hT hT2 (fun p hp => by omega)
    obtain ⟨f', g', b1, b2', b3⟩ := ih n1 f1 g1 (by omega) (by omega) a2 a3
    refine ⟨f', g', ?_, b2', b3⟩
    rw [show ((0 : Nat) : Int) = 0 from rfl] at a1
    rw [XL_X7_solve_44_4, XB_X7_solve_44_4, show ((e + 1 : Nat) : Int) - 1 = (e : Int) by omega, wI_of (x := (e : Int)) (by omega) (by omega), if_neg (by omega), a1, XB_X7_solve_44_8]
    exact b1
/-- the values and sayings of the game -/
noncomputable def uV (M : am_M) (w : Int) (n k : Nat) (p : Int) : Int := uG (af_ M) w (M 14 0) (M 11 0) (n - k) k p
noncomputable def uS (M : am_M) (w : Int) (n k : Nat) (p : Int) : Int := ft (af_ M) w (M 14 0) (uV M w n (k + 1)) k p
theorem uV_s {M : am_M} {w : Int} {n k : Nat} (h : k < n) (p : Int) : uV M w n k p = vl (af_ M) w (M 14 0) (uV M w n (k + 1)) k p (uS M w n k p) := by
  unfold uS uV
  rw [show n - k = (n - (k + 1)) + 1 by omega]
  rfl
theorem uV_r {M : am_M} (I : Ic M) {w : Int} (hw : 0 ≤ w ∧ w ≤ 9) {n : Nat} (hn : n ≤ 4) (k : Nat) (q : Int) (hq : 0 ≤ q ∧ q ≤ M 11 0) : -200 ≤ uV M w n k q ∧ uV M w n k q ≤ 200 := by
  have := uG_r I (d := M 14 0) hw (n - k) k q hq
  unfold uV
  omega
theorem sp_gsolve {M : am_M} (I : Ic M) {w : Int} (hw : 0 ≤ w ∧ w ≤ 9) {n : Nat} (hn : n ≤ 4) : ∃ f g, X_X7_solve_44 n w M = some (0, am_row (am_row (am_up M 44 4 w) 45 f) 46 g) ∧ Tg (M 11 0) (uV M w n) n 0 f ∧ Ts (M 11 0) (uS M w n) n 0 g := by
  have rs := I.rs
  have G : GmI (am_up M 44 4 w) w := ⟨Kc.ic I (Kc.up (by decide)), up_s, hw⟩
  obtain ⟨f1, g1, a1, a2⟩ := lp_g1 (XB_X7_solve_44_3 (XL_X7_solve_44_4 XB_X7_solve_44_9 1000)) G.1 hn (M 11 0 + 1).toNat 1000 0 (M 45) (M 46) (show ((0 : Nat) : Int) + _ = M 11 0 + 1 by omega) (by omega) (fun p hp => by omega)
  obtain ⟨f2, g2, b1, b2', b3⟩ := lp_g4 XB_X7_solve_44_9 G (U := uV M w n) (S := uS M w n) hn (fun k hk p => uV_s hk p) (fun k hk p => rfl) (fun k q hq => uV_r I hw hn k q hq) n 1000 f1 g1 (Nat.le_refl _) (by omega) (fun k h1 h2 p hp => by
    have : k = n := by omega
    subst this
    rw [a2 p hp]
    unfold uV
    rw [Nat.sub_self]; rfl) (fun k h1 h2 p hp => by omega)
  refine ⟨f2, g2, ?_, b2', b3⟩
  rw [show ((0 : Nat) : Int) = 0 from rfl] at a1
  have e : am_row (am_row (am_up M 44 4 w) 45 (M 45)) 46 (M 46) = am_up M 44 4 w := by
    rw [show am_row (am_up M 44 4 w) 45 (M 45) = am_up M 44 4 w from row_self (am_up M 44 4 w) 45]
    exact row_self (am_up M 44 4 w) 46
  rw [e] at a1
  rw [X_X7_solve_44, XB_X7_solve_44_e, a1, XB_X7_solve_44_3, b1]
  rfl
end
section
/-! What to say by turns, the reference's side; game, said, calm. -/
/-- the reference's game stands ready -/
noncomputable def GrJ (M : am_M) (w : Int) : Prop := Ic M ∧ M 53 30 = w ∧ 0 ≤ w ∧ w ≤ 9
theorem m_gb {M : am_M} {w : Int} (G : GrJ M w) {V : Int → Int} {k : Nat} (hk : k < 4) (hV : ∀ q : Nat, (q : Int) ≤ M 11 0 → M 68 (13 * (k + 1) + q) = V q) {p a b : Int} (hp : 0 ≤ p ∧ p ≤ M 11 0) (ha : 0 ≤ a ∧ a ≤ 3) (hb : 0 ≤ b ∧ b ≤ 3) : X_X9_gameBy_53 k p a b M = some (gb (af_ M) w (M 14 0) V k p a b, M) := by
  have r0 := G.1.r0
  have rs := G.1.rs
  have hr := af_r (M := M) (d := M 14 0 + k) (x := a) (y := b) hp
  obtain ⟨t, ht⟩ := Int.eq_ofNat_of_zero_le hr.1
  have e : ∀ _ : Unit, wI (13 * ((k : Int) + 1) + t) = ((13 * (k + 1) + t : Nat) : Int) := fun _ => by rw [wI_of (by omega) (by omega)]; push_cast; omega
  rw [X_X9_gameBy_53, G.1.d0, km_aft G.1 hp (by omega) ha hb, ob]
  dsimp +instances only
  rw [ht, e (), if_pos (by omega), Int.toNat_natCast, G.2.1, hV t (by omega)]
  unfold gb
  rw [ht]
theorem m_an1 (k6 : Int → am_M → am_Rs) {M : am_M} {w : Int} (G : GrJ M w) {V : Int → Int} {k : Nat} (hk : k < 4) (hV : ∀ q : Nat, (q : Int) ≤ M 11 0 → M 68 (13 * (k + 1) + q) = V q) (hO : ∀ q, 0 ≤ q ∧ q ≤ M 11 0 → -200 ≤ V q ∧ V q ≤ 200) {p a b s : Int} (hp : 0 ≤ p ∧ p ≤ M 11 0) (ha : 0 ≤ a ∧ a ≤ 3) (hb : 0 ≤ b ∧ b ≤ 3) (hs : 0 ≤ s ∧ s ≤ 3) (n : Nat) : XL_X9_answerTo_53_1 k6 (n + 1) k p a s b M = XL_X9_answerTo_53_1 k6 n k p a (sel (gb (af_ M) w (M 14 0) V k p a) b s) (b + 1) M := by
  have h1 := gb_r (d := M 14 0) (k := k) G.2.2 hO hp ha hb
  have h2 := gb_r (d := M 14 0) (k := k) G.2.2 hO hp ha hs
  rw [XL_X9_answerTo_53_1, XB_X9_answerTo_53_1, wI_of (x := b) (by omega) (by omega), if_pos (by omega), m_gb G hk hV hp ha hb, ob]
  dsimp only
  rw [m_gb G hk hV hp ha hs, ob]
  dsimp +instances only
  unfold sel
  generalize gb (af_ M) w (M 14 0) V k p a b = x at h1 ⊢
  generalize gb (af_ M) w (M 14 0) V k p a s = y at h2 ⊢
  rw [wI_of (x := x) (by omega) (by omega), wI_of (x := y) (by omega) (by omega)]
  split <;> rfl
theorem m_answer {M : am_M} {w : Int} (G : GrJ M w) {V : Int → Int} {k : Nat} (hk : k < 4) (hV : ∀ q : Nat, (q : Int) ≤ M 11 0 → M 68 (13 * (k + 1) + q) = V q) (hO : ∀ q, 0 ≤ q ∧ q ≤ M 11 0 → -200 ≤ V q ∧ V q ≤ 200) {p a : Int} (hp : 0 ≤ p ∧ p ≤ M 11 0) (ha : 0 ≤ a ∧ a ≤ 3) : X_X9_answerTo_53 k p a M = some (pk (gb (af_ M) w (M 14 0) V k p a), M) := by
  generalize hf : gb (af_ M) w (M 14 0) V k p a = f
  have st : ∀ (n : Nat) (s b : Int), 0 ≤ s ∧ s ≤ 3 → 0 ≤ b ∧ b ≤ 3 → XL_X9_answerTo_53_1 XB_X9_answerTo_53_6 (n + 1) k p a s b M = XL_X9_answerTo_53_1 XB_X9_answerTo_53_6 n k p a (sel f b s) (b + 1) M := fun n s b hs hb => by
    have := m_an1 XB_X9_answerTo_53_6 G hk hV hO hp ha hb hs n
    rw [hf] at this
    exact this
  have e1 : XL_X9_answerTo_53_1 XB_X9_answerTo_53_6 1000 k p a 0 1 M = XL_X9_answerTo_53_1 XB_X9_answerTo_53_6 999 k p a (sel f 1 0) (1 + 1) M := st 999 0 1 (by decide) (by decide)
  have e2 : XL_X9_answerTo_53_1 XB_X9_answerTo_53_6 999 k p a (sel f 1 0) (1 + 1) M = XL_X9_answerTo_53_1 XB_X9_answerTo_53_6 998 k p a (sel f 2 (sel f 1 0)) (2 + 1) M := st 998 (sel f 1 0) 2 (sel_r (by decide) (by decide)) (by decide)
  have e3 : XL_X9_answerTo_53_1 XB_X9_answerTo_53_6 998 k p a (sel f 2 (sel f 1 0)) (2 + 1) M = XL_X9_answerTo_53_1 XB_X9_answerTo_53_6 997 k p a (pk f) (3 + 1) M := st 997 (sel f 2 (sel f 1 0)) 3 (sel_r (by decide) (sel_r (by decide) (by decide))) (by decide)
  rw [X_X9_answerTo_53, XB_X9_answerTo_53_e, e1, e2, e3, XL_X9_answerTo_53_1, XB_X9_answerTo_53_1, if_neg (by decide)]
  rfl
theorem m_vl {M : am_M} {w : Int} (G : GrJ M w) {V : Int → Int} {k : Nat} (hk : k < 4) (hV : ∀ q : Nat, (q : Int) ≤ M 11 0 → M 68 (13 * (k + 1) + q) = V q) (hO : ∀ q, 0 ≤ q ∧ q ≤ M 11 0 → -200 ≤ V q ∧ V q ≤ 200) {p a : Int} (hp : 0 ≤ p ∧ p ≤ M 11 0) (ha : 0 ≤ a ∧ a ≤ 3) : X_X9_valueOf_53 k p a M = some (vl (af_ M) w (M 14 0) V k p a, M) := by
  rw [X_X9_valueOf_53, m_answer G hk hV hO hp ha, ob]
  dsimp only
  rw [m_gb G hk hV hp ha (pk_r _), ob]
  rfl
theorem m_ft {M : am_M} {w : Int} (G : GrJ M w) {V : Int → Int} {k : Nat} (hk : k < 4) (hV : ∀ q : Nat, (q : Int) ≤ M 11 0 → M 68 (13 * (k + 1) + q) = V q) (hO : ∀ q, 0 ≤ q ∧ q ≤ M 11 0 → -200 ≤ V q ∧ V q ≤ 200) {p : Int} (hp : 0 ≤ p ∧ p ≤ M 11 0) : X_X9_firstTo_53 k p M = some (ft (af_ M) w (M 14 0) V k p, M) := by
  unfold ft
  obtain ⟨f, hf⟩ : ∃ f : Int → Int, f = fun a => -(vl (af_ M) w (M 14 0) V k p a) := ⟨_, rfl⟩
  rw [← hf]
  have st : ∀ (n : Nat) (s a : Int), 0 ≤ s ∧ s ≤ 3 → 0 ≤ a ∧ a ≤ 3 → XL_X9_firstTo_53_1 XB_X9_firstTo_53_6 (n + 1) k p s a M = XL_X9_firstTo_53_1 XB_X9_firstTo_53_6 n k p (sel f a s) (a + 1) M := fun n s a hs ha => by
    have h1 := gb_r (d := M 14 0) (k := k) G.2.2 hO hp ha (pk_r (gb (af_ M) w (M 14 0) V k p a))
    have h2 := gb_r (d := M 14 0) (k := k) G.2.2 hO hp hs (pk_r (gb (af_ M) w (M 14 0) V k p s))
    change -(200 + 27) ≤ vl (af_ M) w (M 14 0) V k p a ∧ vl (af_ M) w (M 14 0) V k p a ≤ 200 + 27 at h1
    change -(200 + 27) ≤ vl (af_ M) w (M 14 0) V k p s ∧ vl (af_ M) w (M 14 0) V k p s ≤ 200 + 27 at h2
    rw [XL_X9_firstTo_53_1, XB_X9_firstTo_53_1, wI_of (x := a) (by omega) (by omega), if_pos (by omega), m_vl G hk hV hO hp ha, ob]
    dsimp only
    rw [m_vl G hk hV hO hp hs, ob]
    dsimp +instances only
    unfold sel
    rw [hf]
    dsimp +instances only
    generalize vl (af_ M) w (M 14 0) V k p a = x at h1 ⊢
    generalize vl (af_ M) w (M 14 0) V k p s = y at h2 ⊢
    rw [wI_of (x := x) (by omega) (by omega), wI_of (x := y) (by omega) (by omega)]
    by_cases c : y < x
    · rw [if_pos c, if_pos (by omega)]
    · rw [if_neg c, if_neg (by omega)]
  have e1 : XL_X9_firstTo_53_1 XB_X9_firstTo_53_6 1000 k p 0 1 M = XL_X9_firstTo_53_1 XB_X9_firstTo_53_6 999 k p (sel f 1 0) (1 + 1) M := st 999 0 1 (by decide) (by decide)
  have e2 : XL_X9_firstTo_53_1 XB_X9_firstTo_53_6 999 k p (sel f 1 0) (1 + 1) M = XL_X9_firstTo_53_1 XB_X9_firstTo_53_6 998 k p (sel f 2 (sel f 1 0)) (2 + 1) M := st 998 (sel f 1 0) 2 (sel_r (by decide) (by decide)) (by decide)
  have e3 : XL_X9_firstTo_53_1 XB_X9_firstTo_53_6 998 k p (sel f 2 (sel f 1 0)) (2 + 1) M = XL_X9_firstTo_53_1 XB_X9_firstTo_53_6 997 k p (pk f) (3 + 1) M := st 997 (sel f 2 (sel f 1 0)) 3 (sel_r (by decide) (sel_r (by decide) (by decide))) (by decide)
  rw [X_X9_firstTo_53, XB_X9_firstTo_53_e, e1, e2, e3, XL_X9_firstTo_53_1, XB_X9_firstTo_53_1, if_neg (by decide)]
  rfl
theorem lp_h1 (kk : Int → am_M → am_Rs) {N : am_M} (I : Ic N) {n : Nat} (hn : n ≤ 4) : ∀ (e n1 i : Nat) (f : Nat → Int), (i : Int) + e = N 11 0 + 1 → e < n1 → (∀ p : Nat, p < i → f (13 * n + p) = 2 * (p : Int) - N 11 0) → ∃ f', XL_X9_layGames_53_1 kk n1 n i (am_row N 68 f) = kk n (am_row N 68 f') ∧ ∀ p : Nat, (p : Int) ≤ N 11 0 → f' (13 * n + p) = 2 * (p : Int) - N 11 0 := by
  intro e
  induction e with
  | zero =>
    intro n1 i f hi hn1 hf
    have rs := I.rs
    obtain ⟨n1, rfl⟩ : ∃ m, n1 = m + 1 := ⟨n1 - 1, by omega⟩
    refine ⟨f, ?_, fun p hp => hf p (by omega)⟩
    rw [XL_X9_layGames_53_1, XB_X9_layGames_53_1, show (am_row N 68 f) 53 1 = N 11 0 from I.es, wI_of (x := (i : Int)) (by omega) (by omega), wI_of (x := N 11 0) (by omega) (by omega), if_pos (by omega)]
  | succ e ih =>
    intro n1 i f hi hn1 hf
    have rs := I.rs
    obtain ⟨n1, rfl⟩ : ∃ m, n1 = m + 1 := ⟨n1 - 1, by omega⟩
    obtain ⟨f', a1, a2⟩ := ih n1 (i + 1) (fun j => if j = 13 * n + i then 2 * (i : Int) - N 11 0 else f j) (by push_cast; omega) (by omega) (fun p hp => by
      by_cases c : p = i
      · subst c; rw [if_pos rfl]
      · rw [if_neg (by omega)]; exact hf p (by omega))
    refine ⟨f', ?_, a2⟩
    have e1 : ∀ _ : Unit, wI (13 * (n : Int) + i) = ((13 * n + i : Nat) : Int) := fun _ => by rw [wI_of (by omega) (by omega)]; push_cast; omega
    rw [XL_X9_layGames_53_1, XB_X9_layGames_53_1, show (am_row N 68 f) 53 1 = N 11 0 from I.es, wI_of (x := (i : Int)) (by omega) (by omega), wI_of (x := N 11 0) (by omega) (by omega), if_neg (by omega), e1 (), if_pos (by omega), Int.toNat_natCast, up_row, row_row, row_s]
    exact a1
theorem lp_h6 (kk : Int → am_M → am_Rs) {N : am_M} {w : Int} (G : GrJ N w) {U S : Nat → Int → Int} {n k : Nat} (hn : n ≤ 4) (hk : k < n) (hU : ∀ p, U k p = vl (af_ N) w (N 14 0) (U (k + 1)) k p (S k p)) (hS : ∀ p, S k p = ft (af_ N) w (N 14 0) (U (k + 1)) k p) (hO : ∀ q, 0 ≤ q ∧ q ≤ N 11 0 → -200 ≤ U (k + 1) q ∧ U (k + 1) q ≤ 200) : ∀ (e n1 i : Nat) (f : Nat → Int), (i : Int) + e = N 11 0 + 1 → e < n1 → Tg (N 11 0) U n (k + 1) f → (∀ p : Nat, p < i → f (13 * k + p) = U k p) → ∃ f', XL_X9_layGames_53_6 kk n1 k i (am_row N 68 f) = kk k (am_row N 68 f') ∧ Tg (N 11 0) U n k f' := by
  intro e
  induction e with
  | zero =>
    intro n1 i f hi hn1 hT hf
    have rs := G.1.rs
    obtain ⟨n1, rfl⟩ : ∃ m, n1 = m + 1 := ⟨n1 - 1, by omega⟩
    refine ⟨f, ?_, fun k' h1 h2 p hp => ?_⟩
    · rw [XL_X9_layGames_53_6, XB_X9_layGames_53_6, show (am_row N 68 f) 53 1 = N 11 0 from G.1.es, wI_of (x := (i : Int)) (by omega) (by omega), wI_of (x := N 11 0) (by omega) (by omega), if_pos (by omega)]
    · rcases Nat.lt_or_eq_of_le h1 with h | h
      · exact hT k' h h2 p hp
      · subst h; exact hf p (by omega)
  | succ e ih =>
    intro n1 i f hi hn1 hT hf
    have rs := G.1.rs
    obtain ⟨n1, rfl⟩ : ∃ m, n1 = m + 1 := ⟨n1 - 1, by omega⟩
    obtain ⟨f', a1, a2⟩ := ih n1 (i + 1) (fun j => if j = 13 * k + i then U k i else f j) (by push_cast; omega) (by omega) (fun k' h1 h2 p hp => by show (if 13 * k' + p = 13 * k + i then _ else _) = _; rw [if_neg (by omega)]; exact hT k' h1 h2 p hp) (fun p hp => by
      by_cases c : p = i
      · subst c; rw [if_pos rfl]
      · rw [if_neg (by omega)]; exact hf p (by omega))
    refine ⟨f', ?_, a2⟩
    have G' : GrJ (am_row N 68 f) w := ⟨Kc.ic G.1 (Kc.row (by decide)), G.2.1, G.2.2⟩
    have hi2 : 0 ≤ (i : Int) ∧ (i : Int) ≤ N 11 0 := by omega
    have hT1 : ∀ q : Nat, (q : Int) ≤ N 11 0 → (am_row N 68 f) 68 (13 * (k + 1) + q) = U (k + 1) q := fun q hq => hT (k + 1) (by omega) (by omega) q hq
    have q1 : X_X9_firstTo_53 k i (am_row N 68 f) = some (ft (af_ N) w (N 14 0) (U (k + 1)) k i, am_row N 68 f) := m_ft G' (by omega) hT1 hO (p := (i : Int)) hi2
    have q2 : X_X9_valueOf_53 k i (ft (af_ N) w (N 14 0) (U (k + 1)) k i) (am_row N 68 f) = some (vl (af_ N) w (N 14 0) (U (k + 1)) k i (ft (af_ N) w (N 14 0) (U (k + 1)) k i), am_row N 68 f) := m_vl G' (by omega) hT1 hO hi2 (pk_r _)
    rw [← hS] at q1 q2
    rw [← hU] at q2
    have e1 : ∀ _ : Unit, wI (13 * (k : Int) + i) = ((13 * k + i : Nat) : Int) := fun _ => by rw [wI_of (by omega) (by omega)]; push_cast; omega
    rw [XL_X9_layGames_53_6, XB_X9_layGames_53_6, show (am_row N 68 f) 53 1 = N 11 0 from G.1.es, wI_of (x := (i : Int)) (by omega) (by omega), wI_of (x := N 11 0) (by omega) (by omega), if_neg (by omega), q1, ob]
    dsimp only
    rw [q2, ob]
    dsimp +instances only
    rw [e1 (), if_pos (by omega), Int.toNat_natCast, up_row, row_row, row_s]
    exact a1
theorem lp_h4 (kk : am_M → am_Rs) {N : am_M} {w : Int} (G : GrJ N w) {U S : Nat → Int → Int} {n : Nat} (hn : n ≤ 4) (hU : ∀ k, k < n → ∀ p, U k p = vl (af_ N) w (N 14 0) (U (k + 1)) k p (S k p)) (hS : ∀ k, k < n → ∀ p, S k p = ft (af_ N) w (N 14 0) (U (k + 1)) k p) (hO : ∀ k q, 0 ≤ q ∧ q ≤ N 11 0 → -200 ≤ U k q ∧ U k q ≤ 200) : ∀ (e n1 : Nat) (f : Nat → Int), e ≤ n → e < n1 → Tg (N 11 0) U n e f → ∃ f', XL_X9_layGames_53_4 kk n1 ((e : Int) - 1) (am_row N 68 f) = kk (am_row N 68 f') ∧ Tg (N 11 0) U n 0 f' := by
  intro e
  induction e with
  | zero =>
    intro n1 f he hn1 hT
    obtain ⟨n1, rfl⟩ : ∃ m, n1 = m + 1 := ⟨n1 - 1, by omega⟩
    refine ⟨f, ?_, hT⟩
    rw [XL_X9_layGames_53_4, XB_X9_layGames_53_4, if_pos (by decide)]
  | succ e ih =>
    intro n1 f he hn1 hT
    have rs := G.1.rs
    obtain ⟨n1, rfl⟩ : ∃ m, n1 = m + 1 := ⟨n1 - 1, by omega⟩
    obtain ⟨f1, a1, a2⟩ := lp_h6 (XB_X9_layGames_53_8 (XL_X9_layGames_53_4 kk n1)) G (U := U) (S := S) (n := n) (k := e) hn (by omega) (hU e (by omega)) (hS e (by omega)) (hO (e + 1)) (N 11 0 + 1).toNat 1000 0 f (by omega) (by omega) hT (fun p hp => by omega)
    obtain ⟨f', b1, b2'⟩ := ih n1 f1 (by omega) (by omega) a2
    refine ⟨f', ?_, b2'⟩
    rw [show ((0 : Nat) : Int) = 0 from rfl] at a1
    rw [XL_X9_layGames_53_4, XB_X9_layGames_53_4, show ((e + 1 : Nat) : Int) - 1 = (e : Int) by omega, wI_of (x := (e : Int)) (by omega) (by omega), if_neg (by omega), a1, XB_X9_layGames_53_8]
    exact b1
theorem sp_hsolve {M : am_M} (I : Ic M) {w : Int} (hw : 0 ≤ w ∧ w ≤ 9) {n : Nat} (hn : n ≤ 4) : ∃ f, X_X9_layGames_53 n w M = some (0, am_row (am_up (am_up M 53 29 n) 53 30 w) 68 f) ∧ Tg (M 11 0) (uV M w n) n 0 f := by
  have rs := I.rs
  have G : GrJ (am_up (am_up M 53 29 n) 53 30 w) w := ⟨Kc.ic I ((Kc.up53 (by decide)).tr (Kc.up53 (by decide))), up_s, hw⟩
  obtain ⟨f1, a1, a2⟩ := lp_h1 (XB_X9_layGames_53_3 (XL_X9_layGames_53_4 XB_X9_layGames_53_9 1000)) G.1 hn (M 11 0 + 1).toNat 1000 0 (M 68) (show ((0 : Nat) : Int) + _ = M 11 0 + 1 by omega) (by omega) (fun p hp => by omega)
  obtain ⟨f2, b1, b2'⟩ := lp_h4 XB_X9_layGames_53_9 G (U := uV M w n) (S := uS M w n) hn (fun k hk p => uV_s hk p) (fun k hk p => rfl) (fun k q hq => uV_r I hw hn k q hq) n 1000 f1 (Nat.le_refl _) (by omega) (fun k h1 h2 p hp => by
    have : k = n := by omega
    subst this
    rw [a2 p hp]
    unfold uV
    rw [Nat.sub_self]; rfl)
  refine ⟨f2, ?_, b2'⟩
  rw [show ((0 : Nat) : Int) = 0 from rfl, show am_row (am_up (am_up M 53 29 (n : Int)) 53 30 w) 68 (M 68) = am_up (am_up M 53 29 (n : Int)) 53 30 w from row_self (am_up (am_up M 53 29 (n : Int)) 53 30 w) 68] at a1
  rw [X_X9_layGames_53, XB_X9_layGames_53_e, a1, XB_X9_layGames_53_3, b1]
  rfl
/-! the three calls -/
theorem uV_k {M N : am_M} (k : Kc M N) (w : Int) (n : Nat) : uV N w n = uV M w n ∧ uS N w n = uS M w n := by
  have ka : af_ N = af_ M := by funext b d x y; unfold af_; rw [k.1 11 (by decide), k.1 12 (by decide)]
  have k1 : uV N w n = uV M w n := by funext q p; unfold uV; rw [ka, k.1 14 (by decide), k.1 11 (by decide)]
  refine ⟨k1, ?_⟩
  funext q p
  unfold uS
  rw [k1, ka, k.1 14 (by decide)]
/-- both tables, and what they keep -/
theorem gm_both {M : am_M} (I : Inv M) {w : Int} (hw : 0 ≤ w ∧ w ≤ 9) {n : Nat} (hn : n ≤ 4) : (∃ N, X_X7_solve_44 n w M = some (0, N) ∧ Kp M N ∧ GmI N w ∧ Tg (M 11 0) (uV M w n) n 0 (N 45) ∧ Ts (M 11 0) (uS M w n) n 0 (N 46)) ∧ ∀ N : am_M, Kc M N → ∃ N2, X_X9_layGames_53 n w N = some (0, N2) ∧ Kp N N2 ∧ GrJ N2 w ∧ N2 53 29 = n ∧ Tg (M 11 0) (uV M w n) n 0 (N2 68) := by
  constructor
  · obtain ⟨f, g, a1, a2, a3⟩ := sp_gsolve I.b.c hw hn
    exact ⟨_, a1, ((Kp.up (by decide)).tr (Kp.row (by decide))).tr (Kp.row (by decide)), ⟨Kc.ic I.b.c (((Kc.up (by decide)).tr (Kc.row (by decide))).tr (Kc.row (by decide))), by first | exact up_s | (rw [row_a (by decide), row_a (by decide)]; exact up_s) | (rw [row_a (by decide)]; exact up_s), hw⟩, a2, a3⟩
  · intro N k
    obtain ⟨f, a1, a2⟩ := sp_hsolve (Kc.ic I.b.c k) hw hn
    rw [(uV_k k w n).1, k.1 11 (by decide)] at a2
    exact ⟨_, a1, ((Kp.up53 (by decide)).tr (Kp.up53 (by decide))).tr (Kp.row (by decide)), ⟨Kc.ic (Kc.ic I.b.c k) (((Kc.up53 (by decide)).tr (Kc.up53 (by decide))).tr (Kc.row (by decide))), by first | exact up_s | (rw [row_a (by decide)]; exact up_s), hw⟩, by rw [row_a (by decide), up_j (by decide), up_s], a2⟩
theorem Tg.at {s : Int} {U : Nat → Int → Int} {n : Nat} {f : Nat → Int} {b : Int} (hT : Tg s U n 0 f) (hb : 0 ≤ b ∧ b ≤ s) : f b.toNat = U 0 b := by
  obtain ⟨q, rfl⟩ := Int.eq_ofNat_of_zero_le hb.1
  have := hT 0 (Nat.le_refl _) (Nat.zero_le _) q hb.2
  rw [Nat.mul_zero, Nat.zero_add] at this
  rw [Int.toNat_natCast]; exact this
theorem eq_game {M : am_M} (I : Inv M) {n v : Int} (hn : iR n) (hv : iR v) : Step (X_X8_game_0 n v) (X_X9_game_53 n v) M := gd_game I hn hv fun h1 h2 => by
  obtain ⟨n, rfl⟩ := Int.eq_ofNat_of_zero_le h1.1.1
  have rs := I.rs
  have r1 := I.r1
  obtain ⟨⟨N, a1, a2, a3, a4, a5⟩, mB⟩ := gm_both I h1.2 (n := n) (by omega)
  obtain ⟨q, hq⟩ := Int.eq_ofNat_of_zero_le r1.1
  obtain ⟨x, hx⟩ : ∃ x, x = uV M v n 0 (M 14 1) := ⟨_, rfl⟩
  have c0 : X_X8_game_0 n v M = some (1, cT x N) := by
    have e : N 45 (13 * 0 + q) = x := by rw [a4 0 (Nat.le_refl _) (Nat.zero_le _) q (by omega), hx, hq]
    have wo : X_X7_worthOf_44 0 (q : Int) N = some (N 45 (13 * 0 + q), N) := c_worth (k := 0) (p := q) (by omega) (by omega) N
    rw [X_X8_game_0, sp_isGame_c M hn hv, b2_t h1, ob]
    dsimp +instances only
    rw [if_neg (by decide), sp_hasNoLand I.g11, b2_f h2, ob]
    dsimp +instances only
    rw [if_pos wI_0, a1, ob]
    dsimp only
    rw [a2.1 14 (by decide), hq, wo, ob, e]
    dsimp only
    rw [sp_tell_0, ob]
  have kc : Kc M (cT x N) := a2.b.c.tr (Kb.ct N x).c
  obtain ⟨N2, b1, b2', b3, -, b5⟩ := mB _ kc
  have m0 : X_X9_game_53 n v (cT x N) = some (1, mT x N2) := by
    have e53 : (cT x N) 53 1 = M 11 0 := by rw [kc.2.1, I.es]
    have e54 : N2 54 1 = M 14 1 := by rw [b2'.2.2 1 (by decide), kc.2.2 1 (by decide), I.d1]
    rw [X_X9_game_53, sp_isGame_m _ hn hv i0, b2_t h1, ob]
    dsimp +instances only
    rw [if_neg (by decide), e53, wI_of (x := M 11 0) (by omega) (by omega), if_neg h2, b1, ob]
    dsimp +instances only
    rw [e54, wI_of (x := M 14 1) (by omega) (by omega), if_pos (by omega), b5.at r1, ← hx, sp_tell_53, ob]
  refine ⟨_, _, _, _, c0, m0, rfl, ?_⟩
  refine Kp.inv (inv_tell I x) ⟨fun a ha => ?_, fun j hj => ?_, fun j hj => ?_⟩
  · have e1 : ∀ Z : am_M, mT x Z a = Z a := fun Z => by unfold mT; rw [up_a (by omega)]
    rw [e1, e1, b2'.1 a ha]
    by_cases c : a = 0
    · subst c
      have e0 : N 0 = M 0 := a2.1 0 (by decide)
      unfold cT
      rw [up_row, up_row, row_s, row_s, e0]
    · unfold cT; rw [up_a c, up_a c, a2.1 a ha]
  · unfold mT
    by_cases c : j = 8
    · subst c; rw [up_s, up_s]
    · rw [up_j c, up_j c, b2'.2.1 j hj]
      unfold cT
      rw [up_a (by decide), up_a (by decide), a2.2.1 j hj]
  · have e1 : ∀ Z : am_M, mT x Z 54 = Z 54 := fun Z => by unfold mT; rw [up_a (by decide)]
    rw [e1, e1, b2'.2.2 j hj]
    unfold cT
    rw [up_a (by decide), up_a (by decide), a2.2.2 j hj]
theorem eq_said {M : am_M} (I : Inv M) {n v : Int} (hn : iR n) (hv : iR v) : Step (X_X8_said_0 n v) (X_X9_said_53 n v) M := gd_said I hn hv fun h1 h2 => by
  obtain ⟨n, rfl⟩ := Int.eq_ofNat_of_zero_le (show 0 ≤ n by omega)
  have rs := I.rs
  have r1 := I.r1
  obtain ⟨⟨N, a1, a2, a3, a4, a5⟩, mB⟩ := gm_both I h1.2 (n := n) (by omega)
  obtain ⟨q, hq⟩ := Int.eq_ofNat_of_zero_le r1.1
  have c0 : X_X8_said_0 n v M = some (uS M v n 0 (M 14 1), N) := by
    have e : N 46 (13 * 0 + q) = uS M v n 0 (M 14 1) := by rw [a5 0 (Nat.le_refl _) (by omega) q (by omega), hq]
    have wo : X_X7_bestSaying_44 0 (q : Int) N = some (N 46 (13 * 0 + q), N) := c_saying (k := 0) (p := q) (by omega) (by omega) N
    rw [X_X8_said_0, sp_isGame_c M hn hv, b2_t (show (0 ≤ (n : Int) ∧ (n : Int) ≤ 4) ∧ 0 ≤ v ∧ v ≤ 9 by omega), ob]
    dsimp +instances only
    rw [if_neg (by decide), wI_R hn, if_neg (by omega), sp_hasNoLand I.g11, b2_f h2, ob]
    dsimp +instances only
    rw [if_pos wI_0, a1, ob]
    dsimp only
    rw [a2.1 14 (by decide), hq, wo, ob, e, hq]
  obtain ⟨N2, b1, b2', b3, -, b5⟩ := mB _ a2.b.c
  have kc : Kc M N2 := a2.b.c.tr b2'.b.c
  have m0 : X_X9_said_53 n v N = some (uS M v n 0 (M 14 1), N2) := by
    have e53 : N 53 1 = M 11 0 := by rw [a2.2.1 1 (by decide), I.es]
    have e54 : N2 54 1 = M 14 1 := by rw [kc.2.2 1 (by decide), I.d1]
    have f0 : X_X9_firstTo_53 0 (M 14 1) N2 = some (ft (af_ N2) v (N2 14 0) (uV M v n 1) 0 (M 14 1), N2) := m_ft b3 (k := 0) (by omega) (V := uV M v n 1) (fun p hp => b5 1 (by omega) (by omega) p (by rw [kc.1 11 (by decide)] at hp; exact hp)) (fun p hp => by rw [kc.1 11 (by decide)] at hp; exact uV_r I.b.c h1.2 (by omega) 1 p hp) (p := M 14 1) (by rw [kc.1 11 (by decide)]; exact r1)
    have ka : af_ N2 = af_ M := by funext b d x y; unfold af_; rw [kc.1 11 (by decide), kc.1 12 (by decide)]
    rw [ka, kc.1 14 (by decide)] at f0
    rw [X_X9_said_53, sp_isGame_m _ hn hv i1, b2_t h1, ob]
    dsimp +instances only
    rw [if_neg (by decide), e53, wI_of (x := M 11 0) (by omega) (by omega), if_neg h2, b1, ob]
    dsimp +instances only
    rw [e54, f0, ob]
    rfl
  exact st_kp I c0 a2 m0 b2' rfl
/-! both polite all the time -/
theorem lp_calmC (k4 k6 : am_M → am_Rs) {M : am_M} {w : Int} (G : GmI M w) {n : Nat} (hn : n ≤ 4) (hT : Tg (M 11 0) (uV M w n) n 0 (M 45)) (hS : Ts (M 11 0) (uS M w n) n 0 (M 46)) : ∀ (e n1 k : Nat), k + e = n → e < n1 → ((∀ j, k ≤ j → j < n → uS M w n j (M 14 1) = 0 ∧ pk (gb (af_ M) w (M 14 0) (uV M w n (j + 1)) j (M 14 1) 0) = 0) → XL_X7_isCalm_44_1 k4 k6 n1 n k M = k6 M) ∧ (¬ (∀ j, k ≤ j → j < n → uS M w n j (M 14 1) = 0 ∧ pk (gb (af_ M) w (M 14 0) (uV M w n (j + 1)) j (M 14 1) 0) = 0) → XL_X7_isCalm_44_1 k4 k6 n1 n k M = k4 M) := by
  intro e
  induction e with
  | zero =>
    intro n1 k hk hn1
    obtain ⟨n1, rfl⟩ : ∃ m, n1 = m + 1 := ⟨n1 - 1, by omega⟩
    refine ⟨fun _ => ?_, fun h => absurd (fun j h1 h2 => by omega) h⟩
    rw [XL_X7_isCalm_44_1, XB_X7_isCalm_44_1, wI_of (x := (k : Int)) (by omega) (by omega), wI_of (x := (n : Int)) (by omega) (by omega), if_neg (by omega)]
  | succ e ih =>
    intro n1 k hk hn1
    have rs := G.1.rs
    have r1 := G.1.r1
    obtain ⟨n1, rfl⟩ : ∃ m, n1 = m + 1 := ⟨n1 - 1, by omega⟩
    obtain ⟨q, hq⟩ := Int.eq_ofNat_of_zero_le r1.1
    have s1 : X_X7_bestSaying_44 k (M 14 1) M = some (uS M w n k (M 14 1), M) := by
      rw [hq, c_saying (by omega) (by omega), hS k (by omega) (by omega) q (by omega)]
    have s2 : X_X7_bestReply_44 k (M 14 1) 0 M = some (pk (gb (af_ M) w (M 14 0) (uV M w n (k + 1)) k (M 14 1) 0), M) := c_reply G (by omega) (V := uV M w n (k + 1)) (fun p hp => hT (k + 1) (by omega) (by omega) p hp) (fun p hp => uV_r G.1 G.2.2 hn (k + 1) p hp) r1 (by decide)
    have u1 := pk_r (fun a => -(vl (af_ M) w (M 14 0) (uV M w n (k + 1)) k (M 14 1) a))
    change 0 ≤ uS M w n k (M 14 1) ∧ uS M w n k (M 14 1) ≤ 3 at u1
    have u2 := pk_r (gb (af_ M) w (M 14 0) (uV M w n (k + 1)) k (M 14 1) 0)
    have ih := ih n1 (k + 1) (by omega) (by omega)
    have st : XL_X7_isCalm_44_1 k4 k6 (n1 + 1) n k M = if uS M w n k (M 14 1) = 0 then (if pk (gb (af_ M) w (M 14 0) (uV M w n (k + 1)) k (M 14 1) 0) = 0 then XL_X7_isCalm_44_1 k4 k6 n1 n ((k + 1 : Nat) : Int) M else k4 M) else k4 M := by
      rw [XL_X7_isCalm_44_1, XB_X7_isCalm_44_1, wI_of (x := (k : Int)) (by omega) (by omega), wI_of (x := (n : Int)) (by omega) (by omega), if_pos (by omega), s1, ob]
      dsimp +instances only
      rw [s2, ob]
      dsimp +instances only
      generalize uS M w n k (M 14 1) = x at u1 ⊢
      generalize pk (gb (af_ M) w (M 14 0) (uV M w n (k + 1)) k (M 14 1) 0) = y at u2 ⊢
      rw [wI_of (x := x) (by omega) (by omega), wI_of (x := y) (by omega) (by omega)]
      rfl
    rw [st]
    by_cases c1 : uS M w n k (M 14 1) = 0
    · rw [if_pos c1]
      by_cases c2 : pk (gb (af_ M) w (M 14 0) (uV M w n (k + 1)) k (M 14 1) 0) = 0
      · rw [if_pos c2]
        refine ⟨fun h => ih.1 fun j h1 h2 => h j (by omega) h2, fun h => ih.2 fun h' => h fun j h1 h2 => ?_⟩
        rcases Nat.lt_or_eq_of_le h1 with h3 | h3
        · exact h' j h3 h2
        · subst h3; exact ⟨c1, c2⟩
      · rw [if_neg c2]
        exact ⟨fun h => absurd (h k (Nat.le_refl _) (by omega)).2 c2, fun _ => rfl⟩
    · rw [if_neg c1]
      exact ⟨fun h => absurd (h k (Nat.le_refl _) (by omega)).1 c1, fun _ => rfl⟩
theorem lp_calmM (k12 : Int → am_M → am_Rs) {M : am_M} {w : Int} (G : GrJ M w) {n : Nat} (hn : n ≤ 4) (h29 : M 53 29 = n) (hT : Tg (M 11 0) (uV M w n) n 0 (M 68)) : ∀ (e n1 k : Nat) (v : Int), (v = 0 ∨ v = 1) → k + e = n → e < n1 → ((v = 1 ∧ ∀ j, k ≤ j → j < n → uS M w n j (M 14 1) = 0 ∧ pk (gb (af_ M) w (M 14 0) (uV M w n (j + 1)) j (M 14 1) 0) = 0) → XL_X9_calm_53_5 k12 n1 v k M = k12 1 M) ∧ (¬ (v = 1 ∧ ∀ j, k ≤ j → j < n → uS M w n j (M 14 1) = 0 ∧ pk (gb (af_ M) w (M 14 0) (uV M w n (j + 1)) j (M 14 1) 0) = 0) → XL_X9_calm_53_5 k12 n1 v k M = k12 0 M) := by
  intro e
  induction e with
  | zero =>
    intro n1 k v hv hk hn1
    obtain ⟨n1, rfl⟩ : ∃ m, n1 = m + 1 := ⟨n1 - 1, by omega⟩
    have st : XL_X9_calm_53_5 k12 (n1 + 1) v k M = k12 v M := by
      rw [XL_X9_calm_53_5, XB_X9_calm_53_5, h29, wI_of (x := (k : Int)) (by omega) (by omega), wI_of (x := (n : Int)) (by omega) (by omega), if_neg (by omega)]
    rw [st]
    refine ⟨fun h => by rw [h.1], fun h => ?_⟩
    rcases hv with rfl | rfl
    · rfl
    · exact absurd ⟨rfl, fun j h1 h2 => by omega⟩ h
  | succ e ih =>
    intro n1 k v hv hk hn1
    have rs := G.1.rs
    have r1 := G.1.r1
    obtain ⟨n1, rfl⟩ : ∃ m, n1 = m + 1 := ⟨n1 - 1, by omega⟩
    have hV : ∀ p : Nat, (p : Int) ≤ M 11 0 → M 68 (13 * (k + 1) + p) = uV M w n (k + 1) p := fun p hp => hT (k + 1) (by omega) (by omega) p hp
    have hO := fun p hp => uV_r G.1 G.2.2 hn (k + 1) p hp
    have s1 : X_X9_firstTo_53 k (M 14 1) M = some (uS M w n k (M 14 1), M) := m_ft G (by omega) hV hO r1
    have s2 : X_X9_answerTo_53 k (M 14 1) 0 M = some (pk (gb (af_ M) w (M 14 0) (uV M w n (k + 1)) k (M 14 1) 0), M) := m_answer G (by omega) hV hO r1 (by decide)
    have u1 := pk_r (fun a => -(vl (af_ M) w (M 14 0) (uV M w n (k + 1)) k (M 14 1) a))
    change 0 ≤ uS M w n k (M 14 1) ∧ uS M w n k (M 14 1) ≤ 3 at u1
    have u2 := pk_r (gb (af_ M) w (M 14 0) (uV M w n (k + 1)) k (M 14 1) 0)
    have st : XL_X9_calm_53_5 k12 (n1 + 1) v k M = if v = 0 then XL_X9_calm_53_5 k12 n1 0 ((k + 1 : Nat) : Int) M else if uS M w n k (M 14 1) = 0 then (if pk (gb (af_ M) w (M 14 0) (uV M w n (k + 1)) k (M 14 1) 0) = 0 then XL_X9_calm_53_5 k12 n1 1 ((k + 1 : Nat) : Int) M else XL_X9_calm_53_5 k12 n1 0 ((k + 1 : Nat) : Int) M) else XL_X9_calm_53_5 k12 n1 0 ((k + 1 : Nat) : Int) M := by
      rw [XL_X9_calm_53_5, XB_X9_calm_53_5, h29, wI_of (x := (k : Int)) (by omega) (by omega), wI_of (x := (n : Int)) (by omega) (by omega), if_pos (by omega), G.1.d1, s1, ob]
      dsimp +instances only
      rw [G.1.d1, s2, ob]
      dsimp +instances only
      generalize uS M w n k (M 14 1) = x at u1 ⊢
      generalize pk (gb (af_ M) w (M 14 0) (uV M w n (k + 1)) k (M 14 1) 0) = y at u2 ⊢
      rw [wI_of (x := x) (by omega) (by omega), wI_of (x := y) (by omega) (by omega), wI_of (x := v) (by omega) (by omega)]
      rfl
    have i0 := (ih n1 (k + 1) 0 (Or.inl rfl) (by omega) (by omega)).2 (fun h => absurd h.1 (by decide))
    have i1 := ih n1 (k + 1) 1 (Or.inr rfl) (by omega) (by omega)
    rw [st]
    rcases hv with rfl | rfl
    · rw [if_pos rfl]
      exact ⟨fun h => absurd h.1 (by decide), fun _ => i0⟩
    · rw [if_neg (by decide)]
      by_cases c1 : uS M w n k (M 14 1) = 0
      · rw [if_pos c1]
        by_cases c2 : pk (gb (af_ M) w (M 14 0) (uV M w n (k + 1)) k (M 14 1) 0) = 0
        · rw [if_pos c2]
          refine ⟨fun h => i1.1 ⟨rfl, fun j h1 h2 => h.2 j (by omega) h2⟩, fun h => i1.2 fun h' => h ⟨rfl, fun j h1 h2 => ?_⟩⟩
          rcases Nat.lt_or_eq_of_le h1 with h3 | h3
          · exact h'.2 j h3 h2
          · subst h3; exact ⟨c1, c2⟩
        · rw [if_neg c2]
          exact ⟨fun h => absurd (h.2 k (Nat.le_refl _) (by omega)).2 c2, fun _ => i0⟩
      · rw [if_neg c1]
        exact ⟨fun h => absurd (h.2 k (Nat.le_refl _) (by omega)).1 c1, fun _ => i0⟩
theorem eq_calm {M : am_M} (I : Inv M) {n v : Int} (hn : iR n) (hv : iR v) : Step (X_X8_calm_0 n v) (X_X9_calm_53 n v) M := gd_calm I hn hv fun h1 h2 => by
  obtain ⟨n, rfl⟩ := Int.eq_ofNat_of_zero_le h1.1.1
  have rs := I.rs
  have r1 := I.r1
  obtain ⟨⟨N, a1, a2, a3, a4, a5⟩, mB⟩ := gm_both I h1.2 (n := n) (by omega)
  have kN := a2.b.c
  obtain ⟨N2, b1, b2', b3, b4, b5⟩ := mB _ kN
  have kc : Kc M N2 := kN.tr b2'.b.c
  have lc := lp_calmC XB_X7_isCalm_44_4 XB_X7_isCalm_44_6 a3 (n := n) (by omega) (by rw [(uV_k kN v n).1, kN.1 11 (by decide)]; exact a4) (by rw [(uV_k kN v n).2, kN.1 11 (by decide)]; exact a5) n 1000 0 (by omega) (by omega)
  have lm := lp_calmM XB_X9_calm_53_12 b3 (n := n) (by omega) b4 (by rw [(uV_k kc v n).1, kc.1 11 (by decide)]; exact b5) n 1000 0 1 (Or.inr rfl) (by omega) (by omega)
  have ka : af_ N = af_ M := by funext b d x y; unfold af_; rw [kN.1 11 (by decide), kN.1 12 (by decide)]
  have ka2 : af_ N2 = af_ M := by funext b d x y; unfold af_; rw [kc.1 11 (by decide), kc.1 12 (by decide)]
  rw [(uV_k kN v n).1, (uV_k kN v n).2, kN.1 14 (by decide), ka, show ((0 : Nat) : Int) = 0 from rfl] at lc
  rw [(uV_k kc v n).1, (uV_k kc v n).2, kc.1 14 (by decide), ka2, show ((0 : Nat) : Int) = 0 from rfl] at lm
  have e53 : N 53 1 = M 11 0 := by rw [a2.2.1 1 (by decide), I.es]
  have cS : X_X8_calm_0 n v M = (X_X7_isCalm_44 n N).bind fun z4 => if wI z4.1 = 0 then some (0, z4.2) else some (1, z4.2) := by
    rw [X_X8_calm_0, sp_isGame_c M hn hv, b2_t h1, ob]
    dsimp +instances only
    rw [if_neg (by decide), sp_hasNoLand I.g11, b2_f h2, ob]
    dsimp +instances only
    rw [if_pos wI_0, a1, ob]
  have mS : X_X9_calm_53 n v N = XL_X9_calm_53_5 XB_X9_calm_53_12 1000 1 0 N2 := by
    rw [X_X9_calm_53, XB_X9_calm_53_e, sp_isGame_m _ hn hv i0, b2_t h1, ob]
    dsimp +instances only
    rw [if_neg (by decide), e53, wI_of (x := M 11 0) (by omega) (by omega), if_neg h2, b1, ob]
  by_cases c : ∀ j, 0 ≤ j → j < n → uS M v n j (M 14 1) = 0 ∧ pk (gb (af_ M) v (M 14 0) (uV M v n (j + 1)) j (M 14 1) 0) = 0
  · have c0 : X_X8_calm_0 n v M = some (1, N) := by
      rw [cS, X_X7_isCalm_44, XB_X7_isCalm_44_e, lc.1 c, XB_X7_isCalm_44_6, ob]
      dsimp +instances only
      rw [if_neg (by decide)]
    have m0 : X_X9_calm_53 n v N = some (1, N2) := by
      rw [mS, lm.1 ⟨rfl, c⟩, XB_X9_calm_53_12, if_neg (by decide)]
    exact st_kp I c0 a2 m0 b2' rfl
  · have c0 : X_X8_calm_0 n v M = some (0, N) := by
      rw [cS, X_X7_isCalm_44, XB_X7_isCalm_44_e, lc.2 c, XB_X7_isCalm_44_4, ob]
      dsimp +instances only
      rw [if_pos wI_0]
    have m0 : X_X9_calm_53 n v N = some (0, N2) := by
      rw [mS, lm.2 (fun h => c h.2), XB_X9_calm_53_12, if_pos wI_0]
    exact st_kp I c0 a2 m0 b2' rfl
end
