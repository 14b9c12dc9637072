/-! How many rows of moves lead there; the soonest. -/
noncomputable def wN (mv : Int → Int → Int → Int) (d to : Int) : Nat → Nat → Int → Int
  | 0, _, p => if p = to then 1 else 0
  | e + 1, k, p => 0 + (if mv p (-1) (d + k) = -1 then 0 else wN mv d to e (k + 1) (p + -1)) + (if mv p 0 (d + k) = -1 then 0 else wN mv d to e (k + 1) (p + 0)) + (if mv p 1 (d + k) = -1 then 0 else wN mv d to e (k + 1) (p + 1))
theorem wN_r (mv : Int → Int → Int → Int) (d to : Int) : ∀ (e k : Nat) (p : Int), 0 ≤ wN mv d to e k p ∧ wN mv d to e k p ≤ 3 ^ e
  | 0, _, p => by unfold wN; split <;> decide
  | e + 1, k, p => by
    have h1 := wN_r mv d to e (k + 1) (p + -1)
    have h2 := wN_r mv d to e (k + 1) (p + 0)
    have h3 := wN_r mv d to e (k + 1) (p + 1)
    have h0 : (0 : Int) ≤ 3 ^ e := by omega
    unfold wN
    rw [Int.pow_succ]
    generalize wN mv d to e (k + 1) (p + -1) = a at h1 ⊢
    generalize wN mv d to e (k + 1) (p + 0) = b at h2 ⊢
    generalize wN mv d to e (k + 1) (p + 1) = c at h3 ⊢
    generalize (3 : Int) ^ e = T at h0 h1 h2 h3 ⊢
    repeat' split
    all_goals omega
theorem p3 : ∀ e, e ≤ 20 → (3 : Int) ^ e ≤ 3486784401 := by
  have : ∀ e : Fin 21, (3 : Int) ^ e.val ≤ 3486784401 := by decide
  intro e he
  exact this ⟨e, by omega⟩
theorem wN_R (mv : Int → Int → Int → Int) (d to : Int) {e : Nat} (he : e ≤ 20) (k : Nat) (p : Int) : 0 ≤ wN mv d to e k p ∧ wN mv d to e k p ≤ 3486784401 := by
  have h1 := wN_r mv d to e k p
  have h2 := p3 e he
  omega
theorem m_lw1 (kk : Int → Int → Int → am_M → am_Rs) {N : am_M} (I : Ic N) {f : Nat → Int} {V : Int → Int} {k : Nat} (hk : k < 20) (hV : ∀ q : Nat, (q : Int) ≤ N 11 0 → f (13 * (k + 1) + q) = V q) {p m : Int} (hp : 0 ≤ p ∧ p ≤ N 11 0) (hm : m = -1 ∨ m = 0 ∨ m = 1) (n : Nat) (a : Int) : XL_X9_layWays_53_11 kk (n + 1) k p a m (am_row N 65 f) = XL_X9_layWays_53_11 kk n k p (a + (if mv_ N p m (N 14 0 + k) = -1 then 0 else V (p + m))) (m + 1) (am_row N 65 f) := by
  have r0 := I.r0
  have rs := I.rs
  have B : Ic (am_row N 65 f) := Kc.ic I (Kc.row (by decide))
  have s1 : X_X9_canBe_53 p (N 14 0 + k) m (am_row N 65 f) = some (b2 (mv_ N p m (N 14 0 + k) ≠ -1), am_row N 65 f) := km_can B hp (by omega) (by omega)
  rw [XL_X9_layWays_53_11, XB_X9_layWays_53_11, wI_of (x := m) (by omega) (by omega), if_pos (by omega), show (am_row N 65 f) 54 0 = N 14 0 from I.d0, s1, ob]
  dsimp +instances only
  by_cases c : mv_ N p m (N 14 0 + k) = -1
  · rw [if_pos (show wI (b2 (mv_ N p m (N 14 0 + k) ≠ -1)) = 0 by rw [b2_f (fun q => q c)]; rfl), if_pos c]
  · rw [if_neg (show ¬ wI (b2 (mv_ N p m (N 14 0 + k) ≠ -1)) = 0 by rw [b2_t c]; decide), if_neg c]
    have hb := mv_in hm hp c
    obtain ⟨q, hq⟩ := Int.eq_ofNat_of_zero_le hb.1
    have e : ∀ _ : Unit, wI (13 * ((k : Int) + 1) + p + m) = ((13 * (k + 1) + q : Nat) : Int) := fun _ => by rw [wI_of (by omega) (by omega)]; push_cast; omega
    rw [e (), Int.toNat_natCast, if_pos (by omega), row_s, hV q (by omega), ← hq]
/-- the table of ways from row k0 on -/
noncomputable def Tw (s : Int) (U : Nat → Int → Int) (n k0 : Nat) (f : Nat → Int) : Prop := ∀ k, k0 ≤ k → k ≤ n → ∀ p : Nat, (p : Int) ≤ s → f (13 * k + p) = U k p
theorem lp_w1 (kk : Int → am_M → am_Rs) {N : am_M} (I : Ic N) {to : Int} {n : Nat} (hn : n ≤ 20) (hto : 0 ≤ to ∧ to ≤ 12) : ∀ (e n1 i : Nat) (f : Nat → Int), (i : Int) + e = N 11 0 + 1 → e < n1 → (∀ p : Nat, p < i → f (13 * n + p) = if (p : Int) = to then 1 else 0) → ∃ f', XL_X9_layWays_53_1 kk n1 n to i (am_row N 65 f) = kk n (am_row N 65 f') ∧ ∀ p : Nat, (p : Int) ≤ N 11 0 → f' (13 * n + p) = if (p : Int) = to then 1 else 0 := by
  intro e
  induction e with
  | zero =>
    intro n1 i f hi hn1 hf
    have rs := I.rs
    obtain ⟨n1, rfl⟩ : ∃ m, n1 = m + 1 := ⟨n1 - 1, by omega⟩
    refine ⟨f, ?_, fun p hp => hf p (by omega)⟩
    rw [XL_X9_layWays_53_1, XB_X9_layWays_53_1, show (am_row N 65 f) 53 1 = N 11 0 from I.es, wI_of (x := (i : Int)) (by omega) (by omega), wI_of (x := N 11 0) (by omega) (by omega), if_pos (by omega)]
  | succ e ih =>
    intro n1 i f hi hn1 hf
    have rs := I.rs
    obtain ⟨n1, rfl⟩ : ∃ m, n1 = m + 1 := ⟨n1 - 1, by omega⟩
    obtain ⟨f', a1, a2⟩ := ih n1 (i + 1) (fun j => if j = 13 * n + i then (if (i : Int) = to then 1 else 0) else f j) (by push_cast; omega) (by omega) (fun p hp => by
      by_cases c : p = i
      · subst c; rw [if_pos rfl]
      · rw [if_neg (by omega)]; exact hf p (by omega))
    refine ⟨f', ?_, a2⟩
    have e1 : ∀ _ : Unit, wI (13 * (n : Int) + i) = ((13 * n + i : Nat) : Int) := fun _ => by rw [wI_of (by omega) (by omega)]; push_cast; omega
    rw [XL_X9_layWays_53_1, XB_X9_layWays_53_1, show (am_row N 65 f) 53 1 = N 11 0 from I.es, wI_of (x := (i : Int)) (by omega) (by omega), wI_of (x := N 11 0) (by omega) (by omega), if_neg (by omega), wI_of (x := to) (by omega) (by omega)]
    simp only [e1 (), Int.toNat_natCast, up_row, row_row, row_s]
    rw [if_pos (show 0 ≤ ((13 * n + i : Nat) : Int) ∧ ((13 * n + i : Nat) : Int) < 273 by omega), if_pos (show 0 ≤ ((13 * n + i : Nat) : Int) ∧ ((13 * n + i : Nat) : Int) < 273 by omega)]
    by_cases c2 : (i : Int) = to
    · simp only [if_pos c2] at a1
      rw [if_pos c2]
      exact a1
    · simp only [if_neg c2] at a1
      rw [if_neg c2]
      exact a1
theorem lp_w9 (kk : Int → am_M → am_Rs) {N : am_M} (I : Ic N) {to : Int} {n k : Nat} (hn : n ≤ 20) (hk : k < n) : ∀ (e n1 i : Nat) (f : Nat → Int), (i : Int) + e = N 11 0 + 1 → e < n1 → Tw (N 11 0) (fun k p => wN (mv_ N) (N 14 0) to (n - k) k p) n (k + 1) f → (∀ p : Nat, p < i → f (13 * k + p) = wN (mv_ N) (N 14 0) to (n - k) k p) → ∃ f', XL_X9_layWays_53_9 kk n1 k i (am_row N 65 f) = kk k (am_row N 65 f') ∧ Tw (N 11 0) (fun k p => wN (mv_ N) (N 14 0) to (n - k) k p) n k f' := by
  intro e
  induction e with
  | zero =>
    intro n1 i f hi hn1 hT hf
    have rs := I.rs
    obtain ⟨n1, rfl⟩ : ∃ m, n1 = m + 1 := ⟨n1 - 1, by omega⟩
    refine ⟨f, ?_, fun k' h1 h2 p hp => ?_⟩
    · rw [XL_X9_layWays_53_9, XB_X9_layWays_53_9, show (am_row N 65 f) 53 1 = N 11 0 from I.es, wI_of (x := (i : Int)) (by omega) (by omega), wI_of (x := N 11 0) (by omega) (by omega), if_pos (by omega)]
    · rcases Nat.lt_or_eq_of_le h1 with h | h
      · exact hT k' h h2 p hp
      · subst h; exact hf p (by omega)
  | succ e ih =>
    intro n1 i f hi hn1 hT hf
    have rs := I.rs
    obtain ⟨n1, rfl⟩ : ∃ m, n1 = m + 1 := ⟨n1 - 1, by omega⟩
    obtain ⟨f', a1, a2⟩ := ih n1 (i + 1) (fun j => if j = 13 * k + i then wN (mv_ N) (N 14 0) to (n - k) k i else f j) (by push_cast; omega) (by omega) (fun k' h1 h2 p hp => by show (if 13 * k' + p = 13 * k + i then _ else _) = _; rw [if_neg (by omega)]; exact hT k' h1 h2 p hp) (fun p hp => by
      by_cases c : p = i
      · subst c; rw [if_pos rfl]
      · rw [if_neg (by omega)]; exact hf p (by omega))
    refine ⟨f', ?_, a2⟩
    have e1 : ∀ _ : Unit, wI (13 * (k : Int) + i) = ((13 * k + i : Nat) : Int) := fun _ => by rw [wI_of (by omega) (by omega)]; push_cast; omega
    have hV : ∀ q : Nat, (q : Int) ≤ N 11 0 → f (13 * (k + 1) + q) = wN (mv_ N) (N 14 0) to (n - (k + 1)) (k + 1) q := fun q hq => hT (k + 1) (by omega) (by omega) q hq
    have hp : 0 ≤ (i : Int) ∧ (i : Int) ≤ N 11 0 := by omega
    have s1 : XL_X9_layWays_53_11 (XB_X9_layWays_53_16 (XL_X9_layWays_53_9 kk n1)) 1000 k i 0 (-1) (am_row N 65 f) = _ := m_lw1 (XB_X9_layWays_53_16 (XL_X9_layWays_53_9 kk n1)) I (V := fun q => wN (mv_ N) (N 14 0) to (n - (k + 1)) (k + 1) q) (by omega) hV hp (m := -1) (Or.inl rfl) 999 0
    have s2 : ∀ a, XL_X9_layWays_53_11 (XB_X9_layWays_53_16 (XL_X9_layWays_53_9 kk n1)) 999 k i a (-1 + 1) (am_row N 65 f) = _ := fun a => m_lw1 (XB_X9_layWays_53_16 (XL_X9_layWays_53_9 kk n1)) I (V := fun q => wN (mv_ N) (N 14 0) to (n - (k + 1)) (k + 1) q) (by omega) hV hp (m := -1 + 1) (Or.inr (Or.inl rfl)) 998 a
    have s3 : ∀ a, XL_X9_layWays_53_11 (XB_X9_layWays_53_16 (XL_X9_layWays_53_9 kk n1)) 998 k i a (-1 + 1 + 1) (am_row N 65 f) = _ := fun a => m_lw1 (XB_X9_layWays_53_16 (XL_X9_layWays_53_9 kk n1)) I (V := fun q => wN (mv_ N) (N 14 0) to (n - (k + 1)) (k + 1) q) (by omega) hV hp (m := -1 + 1 + 1) (Or.inr (Or.inr rfl)) 997 a
    rw [XL_X9_layWays_53_9, XB_X9_layWays_53_9, show (am_row N 65 f) 53 1 = N 11 0 from I.es, wI_of (x := (i : Int)) (by omega) (by omega), wI_of (x := N 11 0) (by omega) (by omega), if_neg (by omega), s1, s2, s3, XL_X9_layWays_53_11, XB_X9_layWays_53_11, if_neg (show ¬ wI (-1 + 1 + 1 + 1) < 2 by decide), XB_X9_layWays_53_16, e1 (), if_pos (by omega), Int.toNat_natCast, up_row, row_row, row_s]
    rw [show n - k = (n - (k + 1)) + 1 by omega] at a1
    exact a1
theorem lp_w7 (kk : am_M → am_Rs) {N : am_M} (I : Ic N) {to : Int} {n : Nat} (hn : n ≤ 20) : ∀ (e n1 : Nat) (f : Nat → Int), e ≤ n → e < n1 → Tw (N 11 0) (fun k p => wN (mv_ N) (N 14 0) to (n - k) k p) n e f → ∃ f', XL_X9_layWays_53_7 kk n1 ((e : Int) - 1) (am_row N 65 f) = kk (am_row N 65 f') ∧ Tw (N 11 0) (fun k p => wN (mv_ N) (N 14 0) to (n - k) k p) n 0 f' := by
  intro e
  induction e with
  | zero =>
    intro n1 f he hn1 hT
    obtain ⟨n1, rfl⟩ : ∃ m, n1 = m + 1 := ⟨n1 - 1, by omega⟩
    refine ⟨f, ?_, hT⟩
    rw [XL_X9_layWays_53_7, XB_X9_layWays_53_7, if_pos (by decide)]
  | succ e ih =>
    intro n1 f he hn1 hT
    have rs := I.rs
    obtain ⟨n1, rfl⟩ : ∃ m, n1 = m + 1 := ⟨n1 - 1, by omega⟩
    obtain ⟨f1, a1, a2⟩ := lp_w9 (XB_X9_layWays_53_17 (XL_X9_layWays_53_7 kk n1)) I (to := to) (n := n) (k := e) hn (by omega) (N 11 0 + 1).toNat 1000 0 f (by omega) (by omega) hT (fun p hp => by omega)
    obtain ⟨f', b1, b2⟩ := ih n1 f1 (by omega) (by omega) a2
    refine ⟨f', ?_, b2⟩
    rw [show ((0 : Nat) : Int) = 0 from rfl] at a1
    rw [XL_X9_layWays_53_7, XB_X9_layWays_53_7, show ((e + 1 : Nat) : Int) - 1 = (e : Int) by omega, wI_of (x := (e : Int)) (by omega) (by omega), if_neg (by omega), a1, XB_X9_layWays_53_17]
    exact b1
theorem sp_layWays {N : am_M} (I : Ic N) {n : Nat} (hn : n ≤ 20) {to : Int} (hto : 0 ≤ to ∧ to ≤ 12) : ∃ f, X_X9_layWays_53 n to N = some (0, am_row N 65 f) ∧ Tw (N 11 0) (fun k p => wN (mv_ N) (N 14 0) to (n - k) k p) n 0 f := by
  have rs := I.rs
  obtain ⟨f1, a1, a2⟩ := lp_w1 (XB_X9_layWays_53_6 (XL_X9_layWays_53_7 XB_X9_layWays_53_18 1000)) I (to := to) hn hto ((N 11 0 + 1).toNat) 1000 0 (N 65) (by omega) (by omega) (fun p hp => by omega)
  obtain ⟨f2, b1, b2⟩ := lp_w7 XB_X9_layWays_53_18 I (to := to) hn n 1000 f1 (Nat.le_refl _) (by omega) (fun k h1 h2 p hp => by
    have : k = n := by omega
    subst this
    rw [a2 p hp]
    show _ = wN (mv_ N) (N 14 0) to (k - k) k p
    rw [Nat.sub_self]; rfl)
  refine ⟨f2, ?_, b2⟩
  rw [show ((0 : Nat) : Int) = 0 from rfl, row_self] at a1
  rw [X_X9_layWays_53, XB_X9_layWays_53_e, a1, XB_X9_layWays_53_6, b1]
  rfl
/-! nothing counts: a place is good if there is a way -/
noncomputable def c0_ (_ : Nat) (_ _ : Int) : Int := 0
theorem gO_w (to p : Int) (h : to ≠ -1) : gO to p = if (if p = to then (1 : Int) else 0) = 0 then none else some 0 := by
  unfold gO
  by_cases c : p = to
  · rw [if_pos (Or.inr c.symm), if_pos c, if_neg (by decide)]
  · rw [if_neg c, if_pos rfl, if_neg (fun q => q.elim h (fun w => c w.symm))]
theorem vO_w {mv : Int → Int → Int → Int} {d to : Int} (hto : to ≠ -1) : ∀ (e k : Nat) (p : Int), vO mv c0_ d (gO to) e k p = if wN mv d to e k p = 0 then none else some 0
  | 0, k, p => gO_w to p hto
  | e + 1, k, p => by
    have b : ∀ m, byO mv c0_ d (vO mv c0_ d (gO to) e (k + 1)) k p m = if (if mv p m (d + k) = -1 then 0 else wN mv d to e (k + 1) (p + m)) = 0 then none else some 0 := by
      intro m
      unfold byO
      by_cases c : mv p m (d + k) = -1
      · rw [if_pos c, if_pos c, if_pos rfl]
      · rw [if_neg c, if_neg c, vO_w hto e (k + 1) (p + m)]
        split <;> rfl
    have h1 := (wN_r mv d to e (k + 1) (p + -1)).1
    have h2 := (wN_r mv d to e (k + 1) (p + 0)).1
    have h3 := (wN_r mv d to e (k + 1) (p + 1)).1
    rw [vO, wN]
    unfold stO
    rw [b, b, b]
    generalize wN mv d to e (k + 1) (p + -1) = x1 at h1 ⊢
    generalize wN mv d to e (k + 1) (p + 0) = x2 at h2 ⊢
    generalize wN mv d to e (k + 1) (p + 1) = x3 at h3 ⊢
    have k1 : 0 ≤ (if mv p (-1) (d + k) = -1 then 0 else x1) := by split <;> omega
    have k2 : 0 ≤ (if mv p 0 (d + k) = -1 then 0 else x2) := by split <;> omega
    have k3 : 0 ≤ (if mv p 1 (d + k) = -1 then 0 else x3) := by split <;> omega
    generalize (if mv p (-1) (d + k) = -1 then 0 else x1) = y1 at k1 ⊢
    generalize (if mv p 0 (d + k) = -1 then 0 else x2) = y2 at k2 ⊢
    generalize (if mv p 1 (d + k) = -1 then 0 else x3) = y3 at k3 ⊢
    by_cases c1 : y1 = 0
    · by_cases c2 : y2 = 0
      · by_cases c3 : y3 = 0
        · rw [if_pos c1, if_pos c2, if_pos c3, if_pos (by omega)]; rfl
        · rw [if_pos c1, if_pos c2, if_neg c3, if_neg (by omega)]; rfl
      · by_cases c3 : y3 = 0
        · rw [if_pos c1, if_neg c2, if_pos c3, if_neg (by omega)]; rfl
        · rw [if_pos c1, if_neg c2, if_neg c3, if_neg (by omega)]; rfl
    · by_cases c2 : y2 = 0
      · by_cases c3 : y3 = 0
        · rw [if_neg c1, if_pos c2, if_pos c3, if_neg (by omega)]; rfl
        · rw [if_neg c1, if_pos c2, if_neg c3, if_neg (by omega)]; rfl
      · by_cases c3 : y3 = 0
        · rw [if_neg c1, if_neg c2, if_pos c3, if_neg (by omega)]; rfl
        · rw [if_neg c1, if_neg c2, if_neg c3, if_neg (by omega)]; rfl
theorem cC_0 (mv : Int → Int → Int → Int) (d : Int) : cC 0 mv (fun _ => 0) d = c0_ := by
  funext k p m
  unfold cC c0_
  rw [if_pos rfl]
  split <;> rfl
/-- a place that can be come to has a way -/
theorem rc_w {M : am_M} {n : Nat} {to : Int} : ∀ (k q : Nat), k ≤ n → rc_ M k q → wN (mv_ M) (M 14 0) to (n - k) k q ≠ 0 → wN (mv_ M) (M 14 0) to n 0 (M 14 1) ≠ 0
  | 0, q, _, h, hw => by
    have h : (q : Int) = M 14 1 := h
    rw [h] at hw; exact hw
  | k + 1, q, hk, h, hw => by
    obtain ⟨p, h1, h2, m, h3, h4, h5⟩ := h
    refine rc_w k p (by omega) h1 ?_
    rw [show n - k = (n - (k + 1)) + 1 by omega, wN]
    rw [h5] at hw
    have a1 := (wN_r (mv_ M) (M 14 0) to (n - (k + 1)) (k + 1) ((p : Int) + -1)).1
    have a2 := (wN_r (mv_ M) (M 14 0) to (n - (k + 1)) (k + 1) ((p : Int) + 0)).1
    have a3 := (wN_r (mv_ M) (M 14 0) to (n - (k + 1)) (k + 1) ((p : Int) + 1)).1
    generalize hx1 : wN (mv_ M) (M 14 0) to (n - (k + 1)) (k + 1) ((p : Int) + -1) = x1 at a1 ⊢
    generalize hx2 : wN (mv_ M) (M 14 0) to (n - (k + 1)) (k + 1) ((p : Int) + 0) = x2 at a2 ⊢
    generalize hx3 : wN (mv_ M) (M 14 0) to (n - (k + 1)) (k + 1) ((p : Int) + 1) = x3 at a3 ⊢
    rcases h3 with rfl | rfl | rfl
    · rw [hx1] at hw
      rw [if_neg h4]
      split <;> split <;> omega
    · rw [hx2] at hw
      rw [if_neg h4]
      split <;> split <;> omega
    · rw [hx3] at hw
      rw [if_neg h4]
      split <;> split <;> omega
/-! the reference's first row -/
theorem m_fr1 (k6 : Int → Int → Int → Int → Int → am_M → am_Rs) {M : am_M} (I : Ic M) {n : Nat} (hn : n ≤ 20) {to : Int} (hto : 0 ≤ to) (hT : Tw (M 11 0) (fun k p => wN (mv_ M) (M 14 0) to (n - k) k p) n 0 (M 65)) {k : Nat} (hk : k < n) {r v : Int} {p : Nat} {m : Int} (hp : (p : Int) ≤ M 11 0) (hm : m = -1 ∨ m = 0 ∨ m = 1) (n1 : Nat) : XL_X9_firstRow_53_3 k6 (n1 + 1) r v p k m M = if byO (mv_ M) c0_ (M 14 0) (uO (mv_ M) c0_ (M 14 0) to n (k + 1)) k p m = some 0 then k6 r v p k m M else XL_X9_firstRow_53_3 k6 n1 r v p k (m + 1) M := by
  have r0 := I.r0
  have rs := I.rs
  have hp2 : 0 ≤ (p : Int) ∧ (p : Int) ≤ M 11 0 := by omega
  rw [XL_X9_firstRow_53_3, XB_X9_firstRow_53_3, I.d0, km_can I hp2 (by omega) (by omega), ob]
  dsimp +instances only
  unfold byO
  by_cases c : mv_ M p m (M 14 0 + k) = -1
  · rw [if_pos (show wI (b2 (mv_ M p m (M 14 0 + k) ≠ -1)) = 0 by rw [b2_f (fun q => q c)]; rfl), if_pos c, if_neg (fun h => by cases h)]
  · rw [if_neg (show ¬ wI (b2 (mv_ M p m (M 14 0 + k) ≠ -1)) = 0 by rw [b2_t c]; decide), if_neg c]
    have hb := mv_in hm hp2 c
    obtain ⟨q, hq⟩ := Int.eq_ofNat_of_zero_le hb.1
    have e : ∀ _ : Unit, wI (13 * ((k : Int) + 1) + p + m) = ((13 * (k + 1) + q : Nat) : Int) := fun _ => by rw [wI_of (by omega) (by omega)]; push_cast; omega
    have hw := wN_R (mv_ M) (M 14 0) to (e := n - (k + 1)) (by omega) (k + 1) (p + m)
    have hx : M 65 (13 * (k + 1) + q) = wN (mv_ M) (M 14 0) to (n - (k + 1)) (k + 1) (p + m) := by rw [hT (k + 1) (by omega) (by omega) q (by omega), ← hq]
    have hu : uO (mv_ M) c0_ (M 14 0) to n (k + 1) (p + m) = if wN (mv_ M) (M 14 0) to (n - (k + 1)) (k + 1) (p + m) = 0 then none else some 0 := vO_w (by omega) _ _ _
    rw [e (), Int.toNat_natCast, if_pos (by omega), hx, hu]
    generalize wN (mv_ M) (M 14 0) to (n - (k + 1)) (k + 1) (p + m) = w at hw ⊢
    have hz : wI (c_lcmp w 0) = 0 ↔ w = 0 := by rw [lc_eq, wL_of (x := w) (by omega) (by omega), show wL 0 = 0 from rfl]
    by_cases cw : w = 0
    · rw [if_pos (hz.mpr cw), if_pos cw, if_neg (fun h => by cases h)]
    · rw [if_neg (fun h => cw (hz.mp h)), if_neg cw, if_pos (show oadd (some 0) (c0_ k p m) = some 0 from rfl)]
theorem m_fr (k6 : Int → Int → Int → Int → Int → am_M → am_Rs) {M : am_M} (I : Ic M) {n : Nat} (hn : n ≤ 20) {to : Int} (hto : 0 ≤ to) (hT : Tw (M 11 0) (fun k p => wN (mv_ M) (M 14 0) to (n - k) k p) n 0 (M 65)) {k : Nat} (hk : k < n) {r v : Int} {p : Nat} (hp : (p : Int) ≤ M 11 0) (hu : uO (mv_ M) c0_ (M 14 0) to n k p = some 0) : XL_X9_firstRow_53_3 k6 1000 r v p k (-1) M = k6 r v p k (fmU (mv_ M) c0_ (M 14 0) to n k p) M := by
  have e1 : XL_X9_firstRow_53_3 k6 1000 r v p k (-1) M = _ := m_fr1 k6 I hn hto hT hk hp (m := -1) (Or.inl rfl) 999
  have e2 : XL_X9_firstRow_53_3 k6 999 r v p k (-1 + 1) M = _ := m_fr1 k6 I hn hto hT hk hp (m := -1 + 1) (Or.inr (Or.inl rfl)) 998
  have e3 : XL_X9_firstRow_53_3 k6 998 r v p k (-1 + 1 + 1) M = _ := m_fr1 k6 I hn hto hT hk hp (m := -1 + 1 + 1) (Or.inr (Or.inr rfl)) 997
  have h1 := stO_one (mv := mv_ M) (C := c0_) (d := M 14 0) (V := uO (mv_ M) c0_ (M 14 0) to n (k + 1)) (k := k) (p := p)
  rw [← uO_s hk, hu] at h1
  rw [e1, e2, e3]
  unfold fmU fmO
  rw [hu]
  by_cases c1 : byO (mv_ M) c0_ (M 14 0) (uO (mv_ M) c0_ (M 14 0) to n (k + 1)) k p (-1) = some 0
  · rw [if_pos c1, if_pos c1]
  · rw [if_neg c1, if_neg c1]
    by_cases c2 : byO (mv_ M) c0_ (M 14 0) (uO (mv_ M) c0_ (M 14 0) to n (k + 1)) k p 0 = some 0
    · rw [if_pos (show byO (mv_ M) c0_ (M 14 0) (uO (mv_ M) c0_ (M 14 0) to n (k + 1)) k p (-1 + 1) = some 0 from c2), if_pos c2]; rfl
    · rw [if_neg (show ¬ byO (mv_ M) c0_ (M 14 0) (uO (mv_ M) c0_ (M 14 0) to n (k + 1)) k p (-1 + 1) = some 0 from c2), if_neg c2]
      rcases h1 with h1 | h1 | h1
      · exact absurd h1 c1
      · exact absurd h1 c2
      · rw [if_pos (show byO (mv_ M) c0_ (M 14 0) (uO (mv_ M) c0_ (M 14 0) to n (k + 1)) k p (-1 + 1 + 1) = some 0 from h1), if_pos h1]; rfl
theorem u0_s {mv : Int → Int → Int → Int} {d to : Int} (hto : to ≠ -1) {n k : Nat} {p x : Int} (h : uO mv c0_ d to n k p = some x) : uO mv c0_ d to n k p = some 0 := by
  have e : uO mv c0_ d to n k p = if wN mv d to (n - k) k p = 0 then none else some 0 := vO_w hto _ _ _
  rw [e] at h ⊢
  split at h
  · cases h
  · rename_i c; rw [if_neg c]
theorem lp_fr (k7 : am_M → am_Rs) {M : am_M} (I : Ic M) {n : Nat} (hn : n ≤ 20) {to : Int} (hto : 0 ≤ to) (hT : Tw (M 11 0) (fun k p => wN (mv_ M) (M 14 0) to (n - k) k p) n 0 (M 65)) {r : Nat} (hr : r < 6) : ∀ (e n1 k : Nat) (p x : Int) (h : Nat → Int), k + e = n → e < n1 → (0 ≤ p ∧ p ≤ M 11 0) → uO (mv_ M) c0_ (M 14 0) to n k p = some x → XL_X9_firstRow_53_1 k7 n1 r n p k (am_row M 58 h) = k7 (am_row M 58 fun j => if 40 * r + k ≤ j ∧ j < 40 * r + n then ptO (mv_ M) c0_ (M 14 0) to n e k p (j - 40 * r) else h j) := by
  intro e
  induction e with
  | zero =>
    intro n1 k p x h hk hn1 hp hx
    obtain ⟨n1, rfl⟩ : ∃ m, n1 = m + 1 := ⟨n1 - 1, by omega⟩
    rw [XL_X9_firstRow_53_1, XB_X9_firstRow_53_1, wI_of (x := (k : Int)) (by omega) (by omega), wI_of (x := (n : Int)) (by omega) (by omega), if_neg (by omega)]
    refine congrArg (fun F => k7 (am_row M 58 F)) (funext fun j => ?_)
    rw [if_neg (by omega)]
  | succ e ih =>
    intro n1 k p x h hk hn1 hp hx
    have rs := I.rs
    obtain ⟨n1, rfl⟩ : ∃ m, n1 = m + 1 := ⟨n1 - 1, by omega⟩
    obtain ⟨q, rfl⟩ := Int.eq_ofNat_of_zero_le hp.1
    have I' : Ic (am_row M 58 h) := Kc.ic I (Kc.row (by decide))
    have fm : XL_X9_firstRow_53_3 (XB_X9_firstRow_53_6 (XL_X9_firstRow_53_1 k7 n1)) 1000 r n q k (-1) (am_row M 58 h) = XB_X9_firstRow_53_6 (XL_X9_firstRow_53_1 k7 n1) r n q k (fmU (mv_ M) c0_ (M 14 0) to n k q) (am_row M 58 h) := m_fr (XB_X9_firstRow_53_6 (XL_X9_firstRow_53_1 k7 n1)) I' hn hto hT (by omega) hp.2 (u0_s (by omega) hx)
    have hm := fmU_m (mv_ M) c0_ (M 14 0) to n k q
    obtain ⟨hs1, y, hy⟩ := fmU_s (show k < n by omega) hx
    have hb := mv_in (M := M) hm hp hs1
    generalize hF : fmU (mv_ M) c0_ (M 14 0) to n k q = F at fm hm hs1 hy hb
    have e1 : ∀ _ : Unit, wI (40 * (r : Int) + k) = ((40 * r + k : Nat) : Int) := fun _ => by rw [wI_of (by omega) (by omega)]; push_cast; omega
    rw [XL_X9_firstRow_53_1, XB_X9_firstRow_53_1, wI_of (x := (k : Int)) (by omega) (by omega), wI_of (x := (n : Int)) (by omega) (by omega), if_pos (by omega), fm, XB_X9_firstRow_53_6, e1 (), if_pos (by omega), Int.toNat_natCast, up_row, row_row, row_s, ← Int.natCast_succ, ih n1 (k + 1) ((q : Int) + F) y _ (by omega) (by omega) hb hy]
    refine congrArg (fun F => k7 (am_row M 58 F)) (funext fun j => ?_)
    by_cases c1 : j = 40 * r + k
    · subst c1
      rw [if_neg (by omega), if_pos rfl, if_pos (by omega), show 40 * r + k - 40 * r = k by omega, ptO, if_pos rfl, hF]
    · rw [if_neg c1]
      by_cases c2 : 40 * r + (k + 1) ≤ j ∧ j < 40 * r + n
      · rw [if_pos c2, if_pos (by omega), ptO, if_neg (by omega), hF]
      · rw [if_neg c2, if_neg (by omega)]
theorem sp_firstRow {M : am_M} (I : Ic M) {n : Nat} (hn : n ≤ 20) {to : Int} (hto : 0 ≤ to) (hT : Tw (M 11 0) (fun k p => wN (mv_ M) (M 14 0) to (n - k) k p) n 0 (M 65)) {r : Nat} (hr : r < 6) {x : Int} (hx : uO (mv_ M) c0_ (M 14 0) to n 0 (M 14 1) = some x) : ∃ h, X_X9_firstRow_53 r n M = some (0, am_row (am_up M 57 r n) 58 h) ∧ (∀ j, 40 * r ≤ j → j < 40 * r + n → h j = ptO (mv_ M) c0_ (M 14 0) to n n 0 (M 14 1) (j - 40 * r)) ∧ ∀ j, (j < 40 * r ∨ 40 * r + 40 ≤ j) → h j = M 58 j := by
  have mk := sp_makeRow (M := M) (r := (r : Int)) (n := (n : Int)) (by omega)
  rw [Int.toNat_natCast] at mk
  obtain ⟨N, hN⟩ : ∃ N, N = am_up M 57 r (n : Int) := ⟨_, rfl⟩
  rw [← hN] at mk
  have kN : Kc M N := by rw [hN]; exact Kc.up (by decide)
  have f : ∀ c, c ≠ 57 → N c = M c := fun c h => by rw [hN, up_a h]
  have l := lp_fr XB_X9_firstRow_53_7 (Kc.ic I kN) hn hto (r := r) (by rw [kN.mv, f 11 (by decide), f 14 (by decide), f 65 (by decide)]; exact hT) hr n 1000 0 (M 14 1) x (fun j => if 40 * (r : Int) ≤ (j : Int) ∧ (j : Int) < 40 * (r : Int) + 40 then 0 else M 58 j) (by omega) (by omega) (by rw [f 11 (by decide)]; exact I.r1) (by rw [kN.mv, f 14 (by decide)]; exact hx)
  rw [kN.mv, f 14 (by decide), show ((0 : Nat) : Int) = 0 from rfl] at l
  refine ⟨fun j => if 40 * r + 0 ≤ j ∧ j < 40 * r + n then ptO (mv_ M) c0_ (M 14 0) to n n 0 (M 14 1) (j - 40 * r) else if 40 * (r : Int) ≤ (j : Int) ∧ (j : Int) < 40 * (r : Int) + 40 then 0 else M 58 j, ?_, fun j h1 h2 => ?_, fun j h1 => ?_⟩
  · rw [X_X9_firstRow_53, XB_X9_firstRow_53_e, mk, ob]
    dsimp only
    rw [I.d1, l, XB_X9_firstRow_53_7, ← hN]
  · exact if_pos (by omega)
  · show (if _ then _ else if _ then _ else _) = _
    rw [if_neg (by omega), if_neg (by omega)]
/-! the fewest days -/
theorem lp_few (k5 : am_M → am_Rs) {M : am_M} (I : Ic M) {to : Nat} (hto : (to : Int) ≤ M 11 0) : ∀ (e n1 i : Nat) (x : Int), BS x (rc_ M i) → i + e = 21 → e < n1 → (∃ q, i ≤ q ∧ q ≤ 20 ∧ rc_ M q to ∧ (∀ k, i ≤ k → k < q → ¬ rc_ M k to) ∧ XL_X4_fewestDaysTo_36_1 k5 n1 to x i M = some ((q : Int), M)) ∨ ((∀ k, i ≤ k → k ≤ 20 → ¬ rc_ M k to) ∧ XL_X4_fewestDaysTo_36_1 k5 n1 to x i M = k5 M) := by
  intro e
  induction e with
  | zero =>
    intro n1 i x hx hi hn
    obtain ⟨n1, rfl⟩ : ∃ m, n1 = m + 1 := ⟨n1 - 1, by omega⟩
    refine Or.inr ⟨fun k h1 h2 => by omega, ?_⟩
    rw [XL_X4_fewestDaysTo_36_1, XB_X4_fewestDaysTo_36_1, wI_of (x := (i : Int)) (by omega) (by omega), if_pos (by omega)]
  | succ e ih =>
    intro n1 i x hx hi hn
    have rs := I.rs
    have r0 := I.r0
    obtain ⟨n1, rfl⟩ : ∃ m, n1 = m + 1 := ⟨n1 - 1, by omega⟩
    have hg := hx.get (k := to) (by omega)
    have st : XL_X4_fewestDaysTo_36_1 k5 (n1 + 1) to x i M = if wI (b_and_ (b_shr_ x to) 1) = 0 then (X_X4_spread_36 x (M 14 0 + i) M).bind fun z1 => XL_X4_fewestDaysTo_36_1 k5 n1 to z1.1 ((i + 1 : Nat) : Int) z1.2 else some ((i : Int), M) := by
      rw [XL_X4_fewestDaysTo_36_1, XB_X4_fewestDaysTo_36_1, wI_of (x := (i : Int)) (by omega) (by omega), if_neg (by omega)]; rfl
    by_cases c : rc_ M i to
    · refine Or.inl ⟨i, Nat.le_refl _, by omega, c, fun k h1 h2 => by omega, ?_⟩
      rw [st, if_neg (by rw [hg.1 c]; decide)]
    · obtain ⟨y, y1, y2⟩ := sp_spread I hx (d := M 14 0 + i) (by omega)
      have st2 : XL_X4_fewestDaysTo_36_1 k5 (n1 + 1) to x i M = XL_X4_fewestDaysTo_36_1 k5 n1 to y ((i + 1 : Nat) : Int) M := by
        rw [st, if_pos (hg.2 c), y1, ob]
      rw [st2]
      rcases ih n1 (i + 1) y y2 (by omega) (by omega) with ⟨q, a1, a2, a3, a4, a5⟩ | ⟨a1, a2⟩
      · refine Or.inl ⟨q, by omega, a2, a3, fun k h1 h2 => ?_, a5⟩
        rcases Nat.lt_or_eq_of_le h1 with h | h
        · exact a4 k h h2
        · subst h; exact c
      · refine Or.inr ⟨fun k h1 h2 => ?_, a2⟩
        rcases Nat.lt_or_eq_of_le h1 with h | h
        · exact a1 k h h2
        · subst h; exact c
theorem sp_few {M : am_M} (I : Ic M) {to : Nat} (hto : (to : Int) ≤ M 11 0) : (∃ q, q ≤ 20 ∧ rc_ M q to ∧ (∀ k, k < q → ¬ rc_ M k to) ∧ X_X4_fewestDaysTo_36 to M = some ((q : Int), M)) ∨ ((∀ k, k ≤ 20 → ¬ rc_ M k to) ∧ X_X4_fewestDaysTo_36 to M = some (-1, M)) := by
  have r1 := I.r1
  have rs := I.rs
  have := lp_few XB_X4_fewestDaysTo_36_5 I hto 21 1000 0 (b_shl_ 1 (M 14 1)) (BS.one (by omega)) (by omega) (by omega)
  rw [show ((0 : Nat) : Int) = 0 from rfl] at this
  rw [X_X4_fewestDaysTo_36, XB_X4_fewestDaysTo_36_e]
  rcases this with ⟨q, a1, a2, a3, a4, a5⟩ | ⟨a1, a2⟩
  · exact Or.inl ⟨q, a2, a3, fun k h => a4 k (by omega) h, a5⟩
  · exact Or.inr ⟨fun k h => a1 k (by omega) h, by rw [a2]; rfl⟩
theorem lp_soonM (k8 : Int → Int → Int → am_M → am_Rs) (k10 : am_M → am_Rs) {M : am_M} (I : Ic M) {to : Nat} (hto : (to : Int) ≤ M 11 0) (r : Int) : ∀ (e n1 i : Nat), i + e = 21 → e < n1 → (∀ q, i ≤ q → q ≤ 20 → rc_ M q to → (∀ k, i ≤ k → k < q → ¬ rc_ M k to) → XL_X9_soonest_53_6 k8 k10 n1 to r i M = k8 to r q M) ∧ ((∀ k, i ≤ k → k ≤ 20 → ¬ rc_ M k to) → XL_X9_soonest_53_6 k8 k10 n1 to r i M = k10 M) := by
  intro e
  induction e with
  | zero =>
    intro n1 i hi hn
    obtain ⟨n1, rfl⟩ : ∃ m, n1 = m + 1 := ⟨n1 - 1, by omega⟩
    refine ⟨fun q h1 h2 => by omega, fun _ => ?_⟩
    rw [XL_X9_soonest_53_6, XB_X9_soonest_53_6, wI_of (x := (i : Int)) (by omega) (by omega), if_pos (by omega)]
  | succ e ih =>
    intro n1 i hi hn
    have rs := I.rs
    obtain ⟨n1, rfl⟩ : ∃ m, n1 = m + 1 := ⟨n1 - 1, by omega⟩
    obtain ⟨x, x1, x2⟩ := sp_reachM I i (by omega)
    have hg := m_has x2 (k := to) (by omega) M
    have ih := ih n1 (i + 1) (by omega) (by omega)
    by_cases c : rc_ M i to
    · have st : XL_X9_soonest_53_6 k8 k10 (n1 + 1) to r i M = k8 to r i M := by
        rw [XL_X9_soonest_53_6, XB_X9_soonest_53_6, wI_of (x := (i : Int)) (by omega) (by omega), if_neg (by omega), x1, ob]
        dsimp +instances only
        rw [hg.1 c, ob]
        dsimp +instances only
        rw [if_neg (by decide)]
      refine ⟨fun q h1 h2 h3 h4 => ?_, fun h => absurd c (h i (Nat.le_refl _) (by omega))⟩
      rcases Nat.lt_or_eq_of_le h1 with h | h
      · exact absurd c (h4 i (Nat.le_refl _) h)
      · subst h; exact st
    · have st : XL_X9_soonest_53_6 k8 k10 (n1 + 1) to r i M = XL_X9_soonest_53_6 k8 k10 n1 to r ((i + 1 : Nat) : Int) M := by
        rw [XL_X9_soonest_53_6, XB_X9_soonest_53_6, wI_of (x := (i : Int)) (by omega) (by omega), if_neg (by omega), x1, ob]
        dsimp +instances only
        rw [hg.2 c, ob]
        dsimp +instances only
        rw [if_pos wI_0]; rfl
      rw [st]
      refine ⟨fun q h1 h2 h3 h4 => ?_, fun h => ih.2 fun k h1 h2 => h k (by omega) h2⟩
      rcases Nat.lt_or_eq_of_le h1 with h | h
      · exact ih.1 q h h2 h3 fun k k1 k2 => h4 k (by omega) k2
      · subst h; exact absurd h3 c
theorem rc_k {M N : am_M} (k : Kc M N) : ∀ n q, rc_ N n q ↔ rc_ M n q
  | 0, q => by unfold rc_; rw [k.1 14 (by decide)]
  | n + 1, q => by
    unfold rc_
    rw [k.mv, k.1 14 (by decide), k.1 11 (by decide)]
    constructor
    · rintro ⟨p, h1, h2⟩; exact ⟨p, (rc_k k n p).mp h1, h2⟩
    · rintro ⟨p, h1, h2⟩; exact ⟨p, (rc_k k n p).mpr h1, h2⟩
theorem eq_soonest {M : am_M} (I : Inv M) {p r : Int} (hp : iR p) (hr : iR r) : Step (X_X8_soonest_0 p r) (X_X9_soonest_53 p r) M := gd_soonest I hp hr fun h1 h2 h3 => by
  obtain ⟨to, rfl⟩ := Int.eq_ofNat_of_zero_le h1.1
  obtain ⟨r, rfl⟩ := Int.eq_ofNat_of_zero_le h2.1
  have rs := I.rs
  have r0 := I.r0
  have r1 := I.r1
  have hr6 : r < 6 := by omega
  have cS : X_X8_soonest_0 to r M = (X_X4_fewestDaysTo_36 to M).bind fun z4 => if wI z4.1 < 0 then some (-9, z4.2) else (X_X4_tollNothing_36 z4.2).bind fun z5 => (X_X4_solve_36 z4.1 to 0 z5.2).bind fun z6 => (X_X8_layPlan_0 z4.1 r z6.2).bind fun z7 => some (z4.1, z7.2) := by
    rw [X_X8_soonest_0, sp_isPlace_11 I.g11 hp, b2_t h1, ob]
    dsimp +instances only
    rw [if_neg (by decide), sp_isNumber_1 I.sh1 hr, b2_t h2, ob]
    dsimp +instances only
    rw [if_neg (by decide), sp_hasNoLand I.g11, b2_f h3, ob]
    dsimp +instances only
    rw [if_pos wI_0]
  have mS : ∀ N : am_M, N 53 1 = M 11 0 → X_X9_soonest_53 to r N = XL_X9_soonest_53_6 XB_X9_soonest_53_8 XB_X9_soonest_53_10 1000 to r 0 N := by
    intro N n1
    rw [X_X9_soonest_53, XB_X9_soonest_53_e, sp_isPlace (by rw [n1]; exact rs) hp, n1, b2_t h1, ob]
    dsimp +instances only
    rw [if_neg (by decide), sp_isRow _ hr, b2_t h2, ob]
    dsimp +instances only
    rw [if_neg (by decide), n1, wI_of (x := M 11 0) (by omega) (by omega), if_neg h3]
  rcases sp_few I.b.c (to := to) h1.2 with ⟨n, a1, a2, a3, a4⟩ | ⟨a1, a2⟩
  · obtain ⟨t, t1, t2⟩ := sp_tollNo M
    obtain ⟨N, hN⟩ : ∃ N, N = am_row M 37 t := ⟨_, rfl⟩
    have kN : Kp M N := by rw [hN]; exact Kp.row (by decide)
    have kN1 : Kp N (am_up N 36 6 0) := Kp.up (by decide)
    have PN : PlI (am_up N 36 6 0) 0 (fun _ => 0) := by
      refine ⟨Kc.ic I.b.c (kN.tr kN1).b.c, up_s, Or.inl rfl, fun p hp => ?_, ?_⟩
      · rw [up_a (by decide), hN, row_s]; exact t2 p hp
      · rw [cC_0]; intro k p m; unfold c0_; decide
    obtain ⟨f, s1, s2⟩ := sp_solve PN a1 (goal := to) (by omega)
    rw [kN.b.c.mv, kN.1 14 (by decide), kN.1 11 (by decide), cC_0] at s2
    obtain ⟨N2, hN2⟩ : ∃ N2, N2 = am_row (am_up N 36 6 0) 38 f := ⟨_, rfl⟩
    rw [← hN2] at s1
    have kN2 : Kp M N2 := by rw [hN2]; exact (kN.tr kN1).tr (Kp.row (by decide))
    have n2m : mv_ N2 = mv_ M := kN2.b.c.mv
    have n2_14 : N2 14 = M 14 := kN2.1 14 (by decide)
    have f38 : N2 38 = f := by rw [hN2, row_s]
    have hx : uO (mv_ M) c0_ (M 14 0) to n 0 (M 14 1) = some 0 := by
      have e : uO (mv_ M) c0_ (M 14 0) to n 0 (M 14 1) = if wN (mv_ M) (M 14 0) to (n - 0) 0 (M 14 1) = 0 then none else some 0 := vO_w (by omega) _ _ _
      rw [Nat.sub_zero] at e
      rw [e, if_neg (rc_w n to (Nat.le_refl _) a2 (by rw [Nat.sub_self]; unfold wN; rw [if_pos rfl]; decide))]
    have P2 : PlI N2 0 (fun _ => 0) := by rw [hN2]; exact PN.k (Kc.row (by decide)) rfl rfl
    have pl := sp_plan P2 (show Sh1 N2 by unfold Sh1; rw [kN2.1 1 (by decide), kN2.1 2 (by decide)]; exact I.sh1) a1 (goal := to) (r := r) (x := 0) (by rw [n2m, kN2.1 11 (by decide), n2_14, f38, cC_0]; exact s2) hr6 (by rw [n2m, n2_14, cC_0]; exact hx)
    rw [n2m, n2_14, kN2.1 3 (by decide), cC_0] at pl
    obtain ⟨M1, hM1⟩ : ∃ M1, M1 = am_row (am_up N2 2 r n) 3 fun j => if 40 * r ≤ j ∧ j < 40 * r + n then ptO (mv_ M) c0_ (M 14 0) to n n 0 (M 14 1) (j - 40 * r) else M 3 j := ⟨_, rfl⟩
    rw [← hM1] at pl
    have c0 : X_X8_soonest_0 to r M = some ((n : Int), M1) := by
      rw [cS, a4, ob]
      dsimp +instances only
      rw [wI_of (x := (n : Int)) (by omega) (by omega), if_neg (by omega), t1, ob]
      dsimp only
      rw [← hN, s1, ob]
      dsimp only
      rw [pl, ob]
    have kM1 : Kr M M1 := by rw [hM1]; exact (kN2.r.tr (Kr.up (by decide))).tr (Kr.row (by decide))
    have kc := kM1.c
    have B : Ic M1 := Kc.ic I.b.c kc
    have e53 : M1 53 1 = M 11 0 := by rw [kM1.2.1 1 (by decide), I.es]
    have m1 := (lp_soonM XB_X9_soonest_53_8 XB_X9_soonest_53_10 B (to := to) (by rw [kc.1 11 (by decide)]; exact h1.2) (r : Int) 21 1000 0 (by omega) (by omega)).1 n (by omega) a1 ((rc_k kc n to).mpr a2) (fun k _ h => fun w => a3 k h ((rc_k kc k to).mp w))
    rw [show ((0 : Nat) : Int) = 0 from rfl] at m1
    obtain ⟨g, w1, w2⟩ := sp_layWays B a1 (to := to) (by omega)
    rw [kc.mv, kc.1 11 (by decide), kc.1 14 (by decide)] at w2
    obtain ⟨X, hX⟩ : ∃ X, X = am_row M1 65 g := ⟨_, rfl⟩
    rw [← hX] at w1
    have kX : Kp M1 X := by rw [hX]; exact Kp.row (by decide)
    have kcX : Kc M X := kc.tr kX.b.c
    have x65 : X 65 = g := by rw [hX, row_s]
    obtain ⟨h, y1, y2, y3⟩ := sp_firstRow (Kc.ic I.b.c kcX) a1 (to := to) (by omega) (r := r) (x := 0) (by rw [kcX.mv, kcX.1 11 (by decide), kcX.1 14 (by decide), x65]; exact w2) hr6 (by rw [kcX.mv, kcX.1 14 (by decide)]; exact hx)
    rw [kcX.mv, kcX.1 14 (by decide)] at y2
    have m0 : X_X9_soonest_53 to r M1 = some ((n : Int), am_row (am_up X 57 r n) 58 h) := by
      rw [mS M1 e53, m1, XB_X9_soonest_53_8, w1, ob]
      dsimp only
      rw [y1, ob]
    exact ⟨_, _, _, _, c0, m0, rfl, inv_plan I hr6 (by omega) (fun j => iR_p (ptO_r _ _ _ _ _ _ _ _ j)) kN2 hM1 kX y2 y3⟩
  · have c0 : X_X8_soonest_0 to r M = some (-9, M) := by
      rw [cS, a2, ob]
      dsimp +instances only
      rw [if_pos (by decide)]
    have m0 := (lp_soonM XB_X9_soonest_53_8 XB_X9_soonest_53_10 I.b.c h1.2 (r : Int) 21 1000 0 (by omega) (by omega)).2 (fun k _ h => a1 k h)
    rw [show ((0 : Nat) : Int) = 0 from rfl] at m0
    refine st_same I c0 (w := -9) ?_ rfl
    rw [mS M I.es, m0]; rfl
