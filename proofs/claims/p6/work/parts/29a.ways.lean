/-! How many rows of moves lead to a place. -/
theorem lp_fill39 (k : am_M → am_Rs) (N : am_M) (v : Int) : ∀ (e n i : Nat) (f : Nat → Int), i + e = 13 → e < n → XL_J7_fill_d0a16_39_1 k n v i 13 (am_row N 39 f) = k (am_row N 39 fun j => if i ≤ j ∧ j < 13 then v else f j) := by
  intro e
  induction e with
  | zero =>
    intro n i f hi hn
    obtain ⟨n, rfl⟩ : ∃ m, n = m + 1 := ⟨n - 1, by omega⟩
    rw [XL_J7_fill_d0a16_39_1, XB_J7_fill_d0a16_39_1, wI_of (x := (i : Int)) (by omega) (by omega), if_neg (show ¬ (i : Int) < wI 13 by rw [show wI 13 = 13 from rfl]; omega)]
    refine congrArg (fun F => k (am_row N 39 F)) (funext fun j => ?_)
    rw [if_neg (by omega)]
  | succ e ih =>
    intro n i f hi hn
    obtain ⟨n, rfl⟩ : ∃ m, n = m + 1 := ⟨n - 1, by omega⟩
    rw [XL_J7_fill_d0a16_39_1, XB_J7_fill_d0a16_39_1, wI_of (x := (i : Int)) (by omega) (by omega), if_pos (show (i : Int) < wI 13 by rw [show wI 13 = 13 from rfl]; omega), if_pos (by omega), Int.toNat_natCast, up_row, row_row, ← Int.natCast_succ, ih n (i + 1) _ (by omega) (by omega)]
    refine congrArg (fun F => k (am_row N 39 F)) (funext fun j => ?_)
    rw [row_s]
    by_cases c : j = i
    · subst c; rw [if_neg (by omega), if_pos rfl, if_pos (by omega)]
    · by_cases c2 : i + 1 ≤ j ∧ j < 13
      · rw [if_pos c2, if_pos (by omega)]
      · rw [if_neg c2, if_neg c, if_neg (by omega)]
theorem sp_fill39 (M : am_M) (v : Int) : ∃ f, X_J7_fill_d0a16_39 v M = some (0, am_row M 39 f) ∧ ∀ p : Nat, p < 13 → f p = v := by
  have := lp_fill39 XB_J7_fill_d0a16_39_3 M v 13 1000 0 (M 39) (by omega) (by omega)
  rw [row_self, show ((0 : Nat) : Int) = 0 from rfl] at this
  refine ⟨fun j => if 0 ≤ j ∧ j < 13 then v else M 39 j, ?_, fun p hp => if_pos (by omega)⟩
  rw [X_J7_fill_d0a16_39, XB_J7_fill_d0a16_39_e, this]; rfl
theorem lp_fill40 (k : am_M → am_Rs) (N : am_M) (v : Int) : ∀ (e n i : Nat) (f : Nat → Int), i + e = 13 → e < n → XL_J7_fill_d0a16_40_1 k n v i 13 (am_row N 40 f) = k (am_row N 40 fun j => if i ≤ j ∧ j < 13 then v else f j) := by
  intro e
  induction e with
  | zero =>
    intro n i f hi hn
    obtain ⟨n, rfl⟩ : ∃ m, n = m + 1 := ⟨n - 1, by omega⟩
    rw [XL_J7_fill_d0a16_40_1, XB_J7_fill_d0a16_40_1, wI_of (x := (i : Int)) (by omega) (by omega), if_neg (show ¬ (i : Int) < wI 13 by rw [show wI 13 = 13 from rfl]; omega)]
    refine congrArg (fun F => k (am_row N 40 F)) (funext fun j => ?_)
    rw [if_neg (by omega)]
  | succ e ih =>
    intro n i f hi hn
    obtain ⟨n, rfl⟩ : ∃ m, n = m + 1 := ⟨n - 1, by omega⟩
    rw [XL_J7_fill_d0a16_40_1, XB_J7_fill_d0a16_40_1, wI_of (x := (i : Int)) (by omega) (by omega), if_pos (show (i : Int) < wI 13 by rw [show wI 13 = 13 from rfl]; omega), if_pos (by omega), Int.toNat_natCast, up_row, row_row, ← Int.natCast_succ, ih n (i + 1) _ (by omega) (by omega)]
    refine congrArg (fun F => k (am_row N 40 F)) (funext fun j => ?_)
    rw [row_s]
    by_cases c : j = i
    · subst c; rw [if_neg (by omega), if_pos rfl, if_pos (by omega)]
    · by_cases c2 : i + 1 ≤ j ∧ j < 13
      · rw [if_pos c2, if_pos (by omega)]
      · rw [if_neg c2, if_neg c, if_neg (by omega)]
theorem sp_fill40 (M : am_M) (v : Int) : ∃ f, X_J7_fill_d0a16_40 v M = some (0, am_row M 40 f) ∧ ∀ p : Nat, p < 13 → f p = v := by
  have := lp_fill40 XB_J7_fill_d0a16_40_3 M v 13 1000 0 (M 40) (by omega) (by omega)
  rw [row_self, show ((0 : Nat) : Int) = 0 from rfl] at this
  refine ⟨fun j => if 0 ≤ j ∧ j < 13 then v else M 40 j, ?_, fun p hp => if_pos (by omega)⟩
  rw [X_J7_fill_d0a16_40, XB_J7_fill_d0a16_40_e, this]; rfl
theorem lp_fill42 (k : am_M → am_Rs) (N : am_M) (v : Int) : ∀ (e n i : Nat) (f : Nat → Int), i + e = 13 → e < n → XL_J7_fill_d0a16_42_1 k n v i 13 (am_row N 42 f) = k (am_row N 42 fun j => if i ≤ j ∧ j < 13 then v else f j) := by
  intro e
  induction e with
  | zero =>
    intro n i f hi hn
    obtain ⟨n, rfl⟩ : ∃ m, n = m + 1 := ⟨n - 1, by omega⟩
    rw [XL_J7_fill_d0a16_42_1, XB_J7_fill_d0a16_42_1, wI_of (x := (i : Int)) (by omega) (by omega), if_neg (show ¬ (i : Int) < wI 13 by rw [show wI 13 = 13 from rfl]; omega)]
    refine congrArg (fun F => k (am_row N 42 F)) (funext fun j => ?_)
    rw [if_neg (by omega)]
  | succ e ih =>
    intro n i f hi hn
    obtain ⟨n, rfl⟩ : ∃ m, n = m + 1 := ⟨n - 1, by omega⟩
    rw [XL_J7_fill_d0a16_42_1, XB_J7_fill_d0a16_42_1, wI_of (x := (i : Int)) (by omega) (by omega), if_pos (show (i : Int) < wI 13 by rw [show wI 13 = 13 from rfl]; omega), if_pos (by omega), Int.toNat_natCast, up_row, row_row, ← Int.natCast_succ, ih n (i + 1) _ (by omega) (by omega)]
    refine congrArg (fun F => k (am_row N 42 F)) (funext fun j => ?_)
    rw [row_s]
    by_cases c : j = i
    · subst c; rw [if_neg (by omega), if_pos rfl, if_pos (by omega)]
    · by_cases c2 : i + 1 ≤ j ∧ j < 13
      · rw [if_pos c2, if_pos (by omega)]
      · rw [if_neg c2, if_neg c, if_neg (by omega)]
theorem sp_fill42 (M : am_M) (v : Int) : ∃ f, X_J7_fill_d0a16_42 v M = some (0, am_row M 42 f) ∧ ∀ p : Nat, p < 13 → f p = v := by
  have := lp_fill42 XB_J7_fill_d0a16_42_3 M v 13 1000 0 (M 42) (by omega) (by omega)
  rw [row_self, show ((0 : Nat) : Int) = 0 from rfl] at this
  refine ⟨fun j => if 0 ≤ j ∧ j < 13 then v else M 42 j, ?_, fun p hp => if_pos (by omega)⟩
  rw [X_J7_fill_d0a16_42, XB_J7_fill_d0a16_42_e, this]; rfl
theorem lp_fill43 (k : am_M → am_Rs) (N : am_M) (v : Int) : ∀ (e n i : Nat) (f : Nat → Int), i + e = 13 → e < n → XL_J7_fill_d0a16_43_1 k n v i 13 (am_row N 43 f) = k (am_row N 43 fun j => if i ≤ j ∧ j < 13 then v else f j) := by
  intro e
  induction e with
  | zero =>
    intro n i f hi hn
    obtain ⟨n, rfl⟩ : ∃ m, n = m + 1 := ⟨n - 1, by omega⟩
    rw [XL_J7_fill_d0a16_43_1, XB_J7_fill_d0a16_43_1, wI_of (x := (i : Int)) (by omega) (by omega), if_neg (show ¬ (i : Int) < wI 13 by rw [show wI 13 = 13 from rfl]; omega)]
    refine congrArg (fun F => k (am_row N 43 F)) (funext fun j => ?_)
    rw [if_neg (by omega)]
  | succ e ih =>
    intro n i f hi hn
    obtain ⟨n, rfl⟩ : ∃ m, n = m + 1 := ⟨n - 1, by omega⟩
    rw [XL_J7_fill_d0a16_43_1, XB_J7_fill_d0a16_43_1, wI_of (x := (i : Int)) (by omega) (by omega), if_pos (show (i : Int) < wI 13 by rw [show wI 13 = 13 from rfl]; omega), if_pos (by omega), Int.toNat_natCast, up_row, row_row, ← Int.natCast_succ, ih n (i + 1) _ (by omega) (by omega)]
    refine congrArg (fun F => k (am_row N 43 F)) (funext fun j => ?_)
    rw [row_s]
    by_cases c : j = i
    · subst c; rw [if_neg (by omega), if_pos rfl, if_pos (by omega)]
    · by_cases c2 : i + 1 ≤ j ∧ j < 13
      · rw [if_pos c2, if_pos (by omega)]
      · rw [if_neg c2, if_neg c, if_neg (by omega)]
theorem sp_fill43 (M : am_M) (v : Int) : ∃ f, X_J7_fill_d0a16_43 v M = some (0, am_row M 43 f) ∧ ∀ p : Nat, p < 13 → f p = v := by
  have := lp_fill43 XB_J7_fill_d0a16_43_3 M v 13 1000 0 (M 43) (by omega) (by omega)
  rw [row_self, show ((0 : Nat) : Int) = 0 from rfl] at this
  refine ⟨fun j => if 0 ≤ j ∧ j < 13 then v else M 43 j, ?_, fun p hp => if_pos (by omega)⟩
  rw [X_J7_fill_d0a16_43, XB_J7_fill_d0a16_43_e, this]; rfl
theorem row_c {M : am_M} {a b : Nat} {f g : Nat → Int} (h : a ≠ b) : am_row (am_row M a f) b g = am_row (am_row M b g) a f := by
  funext c
  by_cases ca : c = a
  · subst ca; rw [row_a h, row_s, row_s]
  · by_cases cb : c = b
    · subst cb; rw [row_s, row_a ca, row_s]
    · rw [row_a cb, row_a ca, row_a ca, row_a cb]
/-! sums -/
theorem sf_add (a b : Nat → Int) : ∀ (d i : Nat), sf (fun j => a j + b j) i d = sf a i d + sf b i d
  | 0, _ => rfl
  | d + 1, i => by simp only [sf]; rw [sf_add a b d (i + 1)]; omega
theorem sf_mul (a : Nat → Int) (x : Int) : ∀ (d i : Nat), sf (fun j => x * a j) i d = x * sf a i d
  | 0, _ => by simp [sf]
  | d + 1, i => by simp only [sf]; rw [sf_mul a x d (i + 1), Int.mul_add]
theorem sf_zero : ∀ (d i : Nat), sf (fun _ => 0) i d = 0
  | 0, _ => rfl
  | d + 1, i => by simp only [sf]; rw [sf_zero d (i + 1)]; rfl
theorem sf_one (V : Nat → Int) (t : Nat) : ∀ (d i : Nat), sf (fun j => (if j = t then 1 else 0) * V j) i d = if i ≤ t ∧ t < i + d then V t else 0
  | 0, i => by rw [if_neg (by omega)]; rfl
  | d + 1, i => by
    simp only [sf]
    rw [sf_one V t d (i + 1)]
    by_cases c : i = t
    · subst c; rw [if_pos rfl, if_neg (by omega), if_pos (by omega), Int.one_mul, Int.add_zero]
    · rw [if_neg c, Int.zero_mul, Int.zero_add]
      by_cases c2 : i + 1 ≤ t ∧ t < i + 1 + d
      · rw [if_pos c2, if_pos (by omega)]
      · rw [if_neg c2, if_neg (by omega)]
/-- whether a move of p leads to q, as a number -/
noncomputable def mq_ (M : am_M) (p d m : Int) (q : Nat) : Int := if mv_ M p m d = -1 then 0 else if (q : Int) = p + m then 1 else 0
theorem sf_mq {M : am_M} {p d m : Int} (hm : mvs m) (hp : 0 ≤ p ∧ p ≤ M 11 0) (V : Nat → Int) (W : Int → Int) (hW : ∀ q : Nat, V q = W q) : sf (fun q => mq_ M p d m q * V q) 0 (M 11 0 + 1).toNat = if mv_ M p m d = -1 then 0 else W (p + m) := by
  by_cases c : mv_ M p m d = -1
  · rw [if_pos c]
    rw [sf_c (b := fun _ => 0) _ _ (fun q _ _ => by show mq_ M p d m q * V q = 0; unfold mq_; rw [if_pos c, Int.zero_mul]), sf_zero]
  · rw [if_neg c]
    have hb := mv_in hm hp c
    obtain ⟨t, ht⟩ := Int.eq_ofNat_of_zero_le hb.1
    rw [sf_c (b := fun j => (if j = t then 1 else 0) * V j) _ _ (fun q _ _ => by
      show mq_ M p d m q * V q = _
      unfold mq_
      rw [if_neg c, ht]
      by_cases e : q = t
      · rw [if_pos e, if_pos (by omega)]
      · rw [if_neg e, if_neg (by omega)]), sf_one, if_pos (by omega), hW, ht]
theorem c_isSlot {p : Int} (hp : 0 ≤ p ∧ p < 13) (M : am_M) : X_X4_isSlot p M = some (1, M) := by
  rw [X_X4_isSlot, wI_of (x := p) (by omega) (by omega), if_neg (by omega), if_pos (by omega)]
theorem bs_mq {M : am_M} {p d x : Int} (hx : BS x (pb_ M p d)) {q : Nat} (hq : q < 20) : wI (b_and_ (b_shr_ x q) 1) = mq_ M p d (-1) q + mq_ M p d 0 q + mq_ M p d 1 q := by
  have hg := hx.get hq
  by_cases c : pb_ M p d q
  · rw [hg.1 c]
    obtain ⟨m, rfl | rfl | rfl, h1, h2⟩ := c
    · unfold mq_
      rw [if_neg h1, if_pos h2, if_neg (show ¬ (q : Int) = p + 0 by omega), if_neg (show ¬ (q : Int) = p + 1 by omega)]
      split <;> split <;> rfl
    · unfold mq_
      rw [if_neg h1, if_pos h2, if_neg (show ¬ (q : Int) = p + -1 by omega), if_neg (show ¬ (q : Int) = p + 1 by omega)]
      split <;> split <;> rfl
    · unfold mq_
      rw [if_neg h1, if_pos h2, if_neg (show ¬ (q : Int) = p + -1 by omega), if_neg (show ¬ (q : Int) = p + 0 by omega)]
      split <;> split <;> rfl
  · rw [hg.2 c]
    have z : ∀ m, mvs m → mq_ M p d m q = 0 := fun m hm => by
      unfold mq_
      split
      · rfl
      · rename_i c1
        split
        · rename_i c2; exact absurd ⟨m, hm, c1, c2⟩ c
        · rfl
    rw [z (-1) (Or.inl rfl), z 0 (Or.inr (Or.inl rfl)), z 1 (Or.inr (Or.inr rfl))]; rfl
theorem lp_pass (k7 : am_M → am_Rs) {N : am_M} (I : Ic N) {p : Nat} (hp : (p : Int) ≤ N 11 0) (x : Int) (ch : ∀ q : Nat, q < 13 → wI (b_and_ (b_shr_ x q) 1) = 0 ∨ wI (b_and_ (b_shr_ x q) 1) = 1) : ∀ (e n i : Nat) (g : Nat → Int), (i : Int) + e = N 11 0 + 1 → e < n → XL_X4_passOn_36_1 k7 n p x i (am_row N 40 g) = k7 (am_row N 40 fun q => if i ≤ q ∧ (q : Int) ≤ N 11 0 then g q + wI (b_and_ (b_shr_ x q) 1) * N 39 p else g q) := by
  intro e
  induction e with
  | zero =>
    intro n i g hi hn
    have rs := I.rs
    obtain ⟨n, rfl⟩ : ∃ m, n = m + 1 := ⟨n - 1, by omega⟩
    rw [XL_X4_passOn_36_1, XB_X4_passOn_36_1, show (am_row N 40 g) 11 0 = N 11 0 from rfl, wI_of (x := (i : Int)) (by omega) (by omega), wI_of (x := N 11 0) (by omega) (by omega), if_pos (by omega)]
    refine congrArg (fun F => k7 (am_row N 40 F)) (funext fun j => ?_)
    rw [if_neg (by omega)]
  | succ e ih =>
    intro n i g hi hn
    have rs := I.rs
    obtain ⟨n, rfl⟩ : ∃ m, n = m + 1 := ⟨n - 1, by omega⟩
    have st : XL_X4_passOn_36_1 k7 (n + 1) p x i (am_row N 40 g) = XL_X4_passOn_36_1 k7 n p x ((i + 1 : Nat) : Int) (am_row N 40 fun q => if q = i then g q + wI (b_and_ (b_shr_ x q) 1) * N 39 p else g q) := by
      rw [XL_X4_passOn_36_1, XB_X4_passOn_36_1, show (am_row N 40 g) 11 0 = N 11 0 from rfl, wI_of (x := (i : Int)) (by omega) (by omega), wI_of (x := N 11 0) (by omega) (by omega), if_neg (by omega), c_isSlot (by omega), ob]
      dsimp +instances only
      rw [if_neg (by decide), c_isSlot (by omega), ob]
      dsimp +instances only
      rw [if_neg (by decide), wI_of (x := (p : Int)) (by omega) (by omega)]
      rcases ch i (by omega) with c | c
      · rw [if_pos c]
        rw [show (fun q => if q = i then g q + wI (b_and_ (b_shr_ x q) 1) * N 39 p else g q) = g from funext fun q => by
          by_cases e : q = i
          · subst e; rw [if_pos rfl, c, Int.zero_mul, Int.add_zero]
          · rw [if_neg e]]
        rfl
      · rw [if_neg (by rw [c]; decide), if_pos (by omega), if_pos (by omega), if_pos (by omega), Int.toNat_natCast, Int.toNat_natCast, row_s, row_a (show 39 ≠ 40 by decide), up_row, row_row, row_s]
        refine congrArg (fun F => XL_X4_passOn_36_1 k7 n p x ((i : Int) + 1) (am_row N 40 F)) (funext fun q => ?_)
        by_cases e : q = i
        · subst e; rw [if_pos rfl, if_pos rfl, c, Int.one_mul]
        · rw [if_neg e, if_neg e]
    rw [st, ih n (i + 1) _ (by push_cast; omega) (by omega)]
    refine congrArg (fun F => k7 (am_row N 40 F)) (funext fun q => ?_)
    by_cases e : q = i
    · subst e; rw [if_neg (by omega), if_pos rfl, if_pos (by omega)]
    · by_cases c2 : i + 1 ≤ q ∧ (q : Int) ≤ N 11 0
      · rw [if_pos c2, if_neg e, if_pos (by omega)]
      · rw [if_neg c2, if_neg e, if_neg (by omega)]
/-- the ways behind, weighed by the ways ahead -/
noncomputable def dot (s : Int) (a : Nat → Int) (V : Int → Int) : Int := sf (fun q => a q * V q) 0 (s + 1).toNat
theorem alg1 (g a b c A V : Int) : (g + (a + b + c) * A) * V = g * V + A * (a * V + b * V + c * V) := by
  rw [Int.add_mul, Int.mul_comm (a + b + c) A, Int.mul_assoc, Int.add_mul, Int.add_mul]
theorem sp_passOn {N : am_M} (I : Ic N) {p : Nat} (hp : (p : Int) ≤ N 11 0) {d : Int} (hd : 0 ≤ d ∧ d < 1000) (g : Nat → Int) (V : Int → Int) : ∃ g', X_X4_passOn_36 p d (am_row N 40 g) = some (0, am_row N 40 g') ∧ dot (N 11 0) g' V = dot (N 11 0) g V + N 39 p * (0 + (if mv_ N p (-1) d = -1 then 0 else V (p + -1)) + (if mv_ N p 0 d = -1 then 0 else V (p + 0)) + (if mv_ N p 1 d = -1 then 0 else V (p + 1))) := by
  have rs := I.rs
  have hp2 : 0 ≤ (p : Int) ∧ (p : Int) ≤ N 11 0 := by omega
  have B : Ic (am_row N 40 g) := Kc.ic I (Kc.row (by decide))
  obtain ⟨x, x1, x2⟩ := sp_pb B (p := (p : Int)) (d := d) hp2 hd
  have hx : BS x (pb_ N p d) := x2
  have l := lp_pass XB_X4_passOn_36_7 I hp x (fun q hq => by
    have hg := hx.get (k := q) (by omega)
    by_cases c : pb_ N p d q
    · exact Or.inr (hg.1 c)
    · exact Or.inl (hg.2 c)) (N 11 0 + 1).toNat 1000 0 g (by omega) (by omega)
  rw [show ((0 : Nat) : Int) = 0 from rfl] at l
  refine ⟨_, by rw [X_X4_passOn_36, XB_X4_passOn_36_e, x1, ob]; dsimp only; rw [l]; rfl, ?_⟩
  unfold dot
  rw [sf_c (b := fun q => g q * V q + N 39 p * (mq_ N p d (-1) q * V q + mq_ N p d 0 q * V q + mq_ N p d 1 q * V q)) _ _ (fun q _ h2 => by
    show (if 0 ≤ q ∧ (q : Int) ≤ N 11 0 then g q + wI (b_and_ (b_shr_ x q) 1) * N 39 p else g q) * V q = _
    rw [if_pos (by omega), bs_mq hx (by omega), alg1]), sf_add, sf_mul, sf_add, sf_add, sf_mq (Or.inl rfl) hp2 _ V (fun _ => rfl), sf_mq (Or.inr (Or.inl rfl)) hp2 _ V (fun _ => rfl), sf_mq (Or.inr (Or.inr rfl)) hp2 _ V (fun _ => rfl), Int.zero_add]
theorem lp_ww6 (k8 : Int → Int → Int → am_M → am_Rs) {N : am_M} (I : Ic N) (t n : Int) {k : Nat} (hk : k < 100) (V : Int → Int) : ∀ (e n1 i : Nat) (g : Nat → Int), (i : Int) + e = N 11 0 + 1 → e < n1 → ∃ g', XL_X4_waysTo_36_6 k8 n1 t n k i (am_row N 40 g) = k8 t n k (am_row N 40 g') ∧ dot (N 11 0) g' V = dot (N 11 0) g V + sf (fun p => N 39 p * (0 + (if mv_ N p (-1) (N 14 0 + k) = -1 then 0 else V (p + -1)) + (if mv_ N p 0 (N 14 0 + k) = -1 then 0 else V (p + 0)) + (if mv_ N p 1 (N 14 0 + k) = -1 then 0 else V (p + 1)))) i e := by
  intro e
  induction e with
  | zero =>
    intro n1 i g hi hn1
    have rs := I.rs
    obtain ⟨n1, rfl⟩ : ∃ m, n1 = m + 1 := ⟨n1 - 1, by omega⟩
    refine ⟨g, ?_, by simp only [sf, Int.add_zero]⟩
    rw [XL_X4_waysTo_36_6, XB_X4_waysTo_36_6, show (am_row N 40 g) 11 0 = N 11 0 from rfl, wI_of (x := (i : Int)) (by omega) (by omega), wI_of (x := N 11 0) (by omega) (by omega), if_pos (by omega)]
  | succ e ih =>
    intro n1 i g hi hn1
    have rs := I.rs
    have r0 := I.r0
    obtain ⟨n1, rfl⟩ : ∃ m, n1 = m + 1 := ⟨n1 - 1, by omega⟩
    obtain ⟨g1, a1, a2⟩ := sp_passOn I (p := i) (by omega) (d := N 14 0 + k) (by omega) g V
    obtain ⟨g', b1, b2⟩ := ih n1 (i + 1) g1 (by push_cast; omega) (by omega)
    refine ⟨g', ?_, ?_⟩
    · rw [XL_X4_waysTo_36_6, XB_X4_waysTo_36_6, show (am_row N 40 g) 11 0 = N 11 0 from rfl, show (am_row N 40 g) 14 0 = N 14 0 from rfl, wI_of (x := (i : Int)) (by omega) (by omega), wI_of (x := N 11 0) (by omega) (by omega), if_neg (by omega), a1, ob]
      exact b1
    · rw [b2, a2]
      simp only [sf]
      rw [Int.add_assoc]
theorem dot_c {s : Int} {a b : Nat → Int} {V : Int → Int} (h : ∀ q : Nat, (q : Int) ≤ s → a q = b q) : dot s a V = dot s b V := by
  unfold dot
  refine sf_c _ _ (fun q _ h2 => ?_)
  show a q * V q = b q * V q
  rw [h q (by omega)]
theorem lp_ww4 (k9 : Int → am_M → am_Rs) {M : am_M} (I : Ic M) (t : Int) {n : Nat} (hn : n ≤ 20) : ∀ (e n1 k : Nat) (a b : Nat → Int), k + e = n → e < n1 → ∃ a' b', XL_X4_waysTo_36_4 k9 n1 t n k (am_row (am_row M 39 a) 40 b) = k9 t (am_row (am_row M 39 a') 40 b') ∧ dot (M 11 0) a' (wN (mv_ M) (M 14 0) t 0 n) = dot (M 11 0) a (wN (mv_ M) (M 14 0) t (n - k) k) := by
  intro e
  induction e with
  | zero =>
    intro n1 k a b hk hn1
    obtain ⟨n1, rfl⟩ : ∃ m, n1 = m + 1 := ⟨n1 - 1, by omega⟩
    refine ⟨a, b, ?_, ?_⟩
    · rw [XL_X4_waysTo_36_4, XB_X4_waysTo_36_4, wI_of (x := (k : Int)) (by omega) (by omega), wI_of (x := (n : Int)) (by omega) (by omega), if_neg (by omega)]
    · have : k = n := by omega
      subst this
      rw [Nat.sub_self]
  | succ e ih =>
    intro n1 k a b hk hn1
    have rs := I.rs
    obtain ⟨n1, rfl⟩ : ∃ m, n1 = m + 1 := ⟨n1 - 1, by omega⟩
    obtain ⟨b0, f1, f2⟩ := sp_fill40 (am_row (am_row M 39 a) 40 b) 0
    rw [row_row] at f1
    have B : Ic (am_row M 39 a) := Kc.ic I (Kc.row (by decide))
    obtain ⟨b1, g1, g2⟩ := lp_ww6 (XB_X4_waysTo_36_8 (XL_X4_waysTo_36_4 k9 n1)) B t n (k := k) (by omega) (wN (mv_ M) (M 14 0) t (n - (k + 1)) (k + 1)) (M 11 0 + 1).toNat 1000 0 b0 (show ((0 : Nat) : Int) + _ = M 11 0 + 1 by omega) (by omega)
    have g2 : dot (M 11 0) b1 (wN (mv_ M) (M 14 0) t (n - (k + 1)) (k + 1)) = dot (M 11 0) b0 (wN (mv_ M) (M 14 0) t (n - (k + 1)) (k + 1)) + dot (M 11 0) a (wN (mv_ M) (M 14 0) t (n - k) k) := by
      rw [show n - k = (n - (k + 1)) + 1 by omega]
      have e39 : (am_row M 39 a) 39 = a := row_s
      rw [e39] at g2
      exact g2
    have z : dot (M 11 0) b0 (wN (mv_ M) (M 14 0) t (n - (k + 1)) (k + 1)) = 0 := by
      unfold dot
      rw [sf_c (b := fun _ => 0) _ _ (fun q _ h2 => by show b0 q * _ = 0; rw [f2 q (by omega), Int.zero_mul]), sf_zero]
    rw [z, Int.zero_add] at g2
    obtain ⟨a', b', h1, h2⟩ := ih n1 (k + 1) (fun j => if j < 13 then b1 j else a j) b1 (by omega) (by omega)
    refine ⟨a', b', ?_, ?_⟩
    · rw [show ((0 : Nat) : Int) = 0 from rfl] at g1
      have cp : am_cpy (am_row (am_row M 39 a) 40 b1) 40 39 0 0 13 = am_row (am_row M 39 fun j => if j < 13 then b1 j else a j) 40 b1 := by
        unfold am_cpy
        rw [row_c (M := M) (a := 39) (b := 40) (by decide), row_row, row_s, row_c (a := 40) (b := 39) (by decide), row_a (show 40 ≠ 39 by decide), row_s]
        refine congrArg (fun F => am_row (am_row M 39 F) 40 b1) (funext fun j => ?_)
        exact cpy_v
      rw [XL_X4_waysTo_36_4, XB_X4_waysTo_36_4, wI_of (x := (k : Int)) (by omega) (by omega), wI_of (x := (n : Int)) (by omega) (by omega), if_pos (by omega), f1, ob]
      dsimp only
      rw [g1, XB_X4_waysTo_36_8, cp]
      exact h1
    · rw [h2, ← g2]
      exact dot_c fun q hq => if_pos (by omega)
theorem sp_waysTo {M : am_M} (I : Ic M) {t : Nat} (ht : (t : Int) ≤ M 11 0) {n : Nat} (hn : n ≤ 20) : ∃ N1, X_X4_waysTo_36 t n M = some (wN (mv_ M) (M 14 0) t n 0 (M 14 1), N1) ∧ Kp M N1 := by
  have rs := I.rs
  have r1 := I.r1
  obtain ⟨f, f1, f2⟩ := sp_fill39 M 0
  obtain ⟨q, hq⟩ := Int.eq_ofNat_of_zero_le r1.1
  obtain ⟨a', b', h1, h2⟩ := lp_ww4 XB_X4_waysTo_36_9 I t hn n 1000 0 (fun j => if j = q then 1 else f j) (M 40) (by omega) (by omega)
  rw [show ((0 : Nat) : Int) = 0 from rfl] at h1
  have e1 : dot (M 11 0) a' (wN (mv_ M) (M 14 0) t 0 n) = a' t := by
    unfold dot
    rw [sf_c (b := fun j => (if j = t then 1 else 0) * a' j) _ _ (fun j _ _ => by
      show a' j * (if (j : Int) = (t : Int) then 1 else 0) = _
      rw [Int.mul_comm]
      by_cases c : j = t
      · rw [if_pos c, if_pos (by omega)]
      · rw [if_neg c, if_neg (by omega)]), sf_one, if_pos (by omega)]
  have e2 : dot (M 11 0) (fun j => if j = q then 1 else f j) (wN (mv_ M) (M 14 0) t (n - 0) 0) = wN (mv_ M) (M 14 0) t n 0 (M 14 1) := by
    unfold dot
    rw [sf_c (b := fun j => (if j = q then 1 else 0) * wN (mv_ M) (M 14 0) t (n - 0) 0 j) _ _ (fun j _ h => by
      show (if j = q then 1 else f j) * _ = _
      by_cases c : j = q
      · rw [if_pos c, if_pos c]
      · rw [if_neg c, if_neg c, f2 j (by omega)]), sf_one, if_pos (by omega), hq, Nat.sub_zero]
  rw [e1, e2] at h2
  refine ⟨am_row (am_row M 39 a') 40 b', ?_, (Kp.row (by decide)).tr (Kp.row (by decide))⟩
  have e3 : am_row (am_row M 39 fun j => if j = q then 1 else f j) 40 (M 40) = am_row M 39 fun j => if j = q then 1 else f j := row_self (am_row M 39 fun j => if j = q then 1 else f j) 40
  rw [e3] at h1
  rw [X_X4_waysTo_36, XB_X4_waysTo_36_e, f1, ob]
  dsimp only
  rw [c_isSlot (by omega), ob]
  dsimp +instances only
  rw [if_neg (by decide), show (am_row M 39 f) 14 1 = M 14 1 from rfl, c_isSlot (by omega), ob]
  dsimp +instances only
  rw [if_neg (by decide), show (am_row M 39 f) 14 1 = M 14 1 from rfl, hq, wI_of (x := (q : Int)) (by omega) (by omega), if_pos (by omega), Int.toNat_natCast, up_row, row_row, row_s, h1, XB_X4_waysTo_36_9, wI_of (x := (t : Int)) (by omega) (by omega), if_pos (by omega), Int.toNat_natCast, row_a (by decide), row_s, h2, hq]
/-! what is told by two numbers -/
noncomputable def cUl (u l : Int) (M : am_M) : am_M := am_up (am_up M 0 14 u) 0 15 l
noncomputable def mUl (u l : Int) (M : am_M) : am_M := am_up (am_up M 53 9 u) 53 10 l
theorem inv_u {M : am_M} (I : Inv M) (u l : Int) : Inv (mUl u l (cUl u l M)) := by
  obtain ⟨h1, h2, h3, h4, h5, h6, t1, t2, t3, t4, t5⟩ := I
  exact ⟨h1, h2, h3, h4, h5, h6, t1, t2, rfl, rfl, t5⟩
theorem cUl_a {u l : Int} {M : am_M} {c : Nat} (h : c ≠ 0) : cUl u l M c = M c := by unfold cUl; rw [up_a h, up_a h]
theorem Kb.cu (u l : Int) (M : am_M) : Kb M (cUl u l M) := ⟨fun a q => cUl_a (by omega), by rw [cUl_a (by decide)], fun j _ => by rw [cUl_a (by decide)]⟩
theorem st_told {X Y : am_M → am_Rs} {M N1 X2 : am_M} (I : Inv M) {u l : Int} (h1 : X M = some (1, cUl u l N1)) (k1 : Kp M N1) (h2 : Y (cUl u l N1) = some (1, mUl u l X2)) (k2 : Kp (cUl u l N1) X2) : Step X Y M := by
  refine ⟨_, _, _, _, h1, h2, rfl, ?_⟩
  refine Kp.inv (inv_u I u l) ⟨fun a ha => ?_, fun j hj => ?_, fun j hj => ?_⟩
  · have e1 : ∀ Z : am_M, mUl u l Z a = Z a := fun Z => by unfold mUl; rw [up_a (by omega), up_a (by omega)]
    rw [e1, e1, k2.1 a ha]
    by_cases c : a = 0
    · subst c
      have e0 : N1 0 = M 0 := k1.1 0 (by decide)
      unfold cUl
      rw [up_row, up_row, row_s, row_s, up_row, up_row, row_s, row_s, e0]
    · rw [cUl_a c, cUl_a c, k1.1 a ha]
  · unfold mUl
    by_cases c10 : j = 10
    · subst c10; rw [up_s, up_s]
    · rw [up_j c10, up_j c10]
      by_cases c9 : j = 9
      · subst c9; rw [up_s, up_s]
      · rw [up_j c9, up_j c9, k2.2.1 j hj, cUl_a (by decide), cUl_a (by decide), k1.2.1 j hj]
  · have e1 : ∀ Z : am_M, mUl u l Z 54 = Z 54 := fun Z => by unfold mUl; rw [up_a (by decide), up_a (by decide)]
    rw [e1, e1, k2.2.2 j hj, cUl_a (by decide), cUl_a (by decide), k1.2.2 j hj]
theorem sp_tell1 (u : Int) (M : am_M) : X_X8_tellChance_0 u 1 M = some (1, cUl u 1 M) := by
  have e : (am_up (am_up M 0 14 u) 0 15 1) 0 15 = 1 := up_s
  rw [X_X8_tellChance_0, XB_X8_tellChance_0_e, XL_X8_tellChance_0_1, XB_X8_tellChance_0_1, e, if_neg (by decide)]
  rfl
theorem eq_ways {M : am_M} (I : Inv M) {p n : Int} (hp : iR p) (hn : iR n) : Step (X_X8_ways_0 p n) (X_X9_ways_53 p n) M := gd_ways I hp hn fun h1 h2 h3 => by
  obtain ⟨to, rfl⟩ := Int.eq_ofNat_of_zero_le h1.1
  obtain ⟨n, rfl⟩ := Int.eq_ofNat_of_zero_le h2.1
  have rs := I.rs
  have r1 := I.r1
  obtain ⟨N1, a1, a2⟩ := sp_waysTo I.b.c h1.2 (n := n) (by omega)
  obtain ⟨w, hw⟩ : ∃ w, w = wN (mv_ M) (M 14 0) to n 0 (M 14 1) := ⟨_, rfl⟩
  rw [← hw] at a1
  have c0 : X_X8_ways_0 to n M = some (1, cUl w 1 N1) := by
    rw [X_X8_ways_0, sp_isPlace_11 I.g11 hp, b2_t h1, ob]
    dsimp +instances only
    rw [if_neg (by decide), sp_isPlan M hn, b2_t h2, ob]
    dsimp +instances only
    rw [if_neg (by decide), sp_hasNoLand I.g11, b2_f h3, ob]
    dsimp +instances only
    rw [if_pos wI_0, a1, ob]
    dsimp only
    rw [sp_tell1, ob]
  have kc : Kc M (cUl w 1 N1) := a2.b.c.tr (Kb.cu w 1 N1).c
  have e53 : (cUl w 1 N1) 53 1 = M 11 0 := by rw [kc.2.1, I.es]
  obtain ⟨g, w1, w2⟩ := sp_layWays (Kc.ic I.b.c kc) (n := n) (by omega) (to := to) (by omega)
  rw [kc.mv, kc.1 11 (by decide), kc.1 14 (by decide)] at w2
  have m0 : X_X9_ways_53 to n (cUl w 1 N1) = some (1, mUl w 1 (am_row (cUl w 1 N1) 65 g)) := by
    have e1 : (am_row (cUl w 1 N1) 65 g) 54 1 = M 14 1 := by rw [row_a (by decide), kc.2.2 1 (by decide), I.d1]
    obtain ⟨q, hq⟩ := Int.eq_ofNat_of_zero_le r1.1
    have e2 : g (M 14 1).toNat = w := by
      have := w2 0 (Nat.le_refl _) (Nat.zero_le _) q (by omega)
      rw [Nat.mul_zero, Nat.zero_add, ← hq] at this
      rw [hq, Int.toNat_natCast, this, hw]; rfl
    rw [X_X9_ways_53, sp_isPlace (by rw [e53]; exact rs) hp, e53, b2_t h1, ob]
    dsimp +instances only
    rw [if_neg (by decide), wI_R hn, sp_in _ hn i0 i20, b2_t h2, ob]
    dsimp +instances only
    rw [if_neg (by decide), e53, wI_of (x := M 11 0) (by omega) (by omega), if_neg h3, w1, ob]
    dsimp +instances only
    rw [e1, wI_of (x := M 14 1) (by omega) (by omega), if_pos (by omega), row_s, e2]
    rfl
  exact st_told I c0 a2 m0 (Kp.row (by decide))
