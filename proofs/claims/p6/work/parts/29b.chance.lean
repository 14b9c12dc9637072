/-! Days by chance. -/
/-- how many of the 16 pairs move, by the least difference that is needed -/
noncomputable def pw (r : Int) : Int := if r = 1 then 6 else if r = 2 then 3 else 0
theorem pw_r (r : Int) : pw r = 0 ∨ pw r = 3 ∨ pw r = 6 := by
  unfold pw
  split
  · exact Or.inr (Or.inr rfl)
  · split
    · exact Or.inr (Or.inl rfl)
    · exact Or.inl rfl
theorem c_ptm {N : am_M} (I : Ic N) {p m d : Int} (hp : 0 ≤ p ∧ p ≤ N 11 0) (hm : m = -1 ∨ m = 1) (hd : 0 ≤ d ∧ d < 1000) : X_X0_pairsThatMove_41 p m d N = some (pw (mv_ N p m d), N) := by
  rw [X_X0_pairsThatMove_41, XB_X0_pairsThatMove_41_e, kc_rud I hp (by omega) hd, ob]
  dsimp only
  rcases mv_nz (M := N) (b := p) (m := m) (d := d) (by omega) with h | h | h <;> rw [h]
  · rw [XL_X0_pairsThatMove_41_1, XB_X0_pairsThatMove_41_1, if_neg (by decide)]; rfl
  · rw [XL_X0_pairsThatMove_41_1, XB_X0_pairsThatMove_41_1, if_pos (by decide), if_neg (by decide), XL_X0_pairsThatMove_41_1, XB_X0_pairsThatMove_41_1, if_pos (by decide), if_neg (by decide), XL_X0_pairsThatMove_41_1, XB_X0_pairsThatMove_41_1, if_pos (by decide), if_neg (by decide), XL_X0_pairsThatMove_41_1, XB_X0_pairsThatMove_41_1, if_pos (by decide), if_pos (by decide)]; rfl
  · rw [XL_X0_pairsThatMove_41_1, XB_X0_pairsThatMove_41_1, if_pos (by decide), if_neg (by decide), XL_X0_pairsThatMove_41_1, XB_X0_pairsThatMove_41_1, if_pos (by decide), if_neg (by decide), XL_X0_pairsThatMove_41_1, XB_X0_pairsThatMove_41_1, if_pos (by decide), if_pos (by decide)]; rfl
/-- how many of the 16 pairs lead from p to q -/
noncomputable def ct (M : am_M) (stop d : Int) (p q : Nat) : Int := if (p : Int) = stop then (if q = p then 16 else 0) else (if (q : Int) = p - 1 then pw (mv_ M p (-1) d) else 0) + (if q = p then 16 - pw (mv_ M p (-1) d) - pw (mv_ M p 1 d) else 0) + (if q = p + 1 then pw (mv_ M p 1 d) else 0)
noncomputable def nx1 (M : am_M) (stop d : Int) (a : Nat → Int) (p : Nat) (b : Nat → Int) (q : Nat) : Int := b q + a p * ct M stop d p q
noncomputable def nxv (M : am_M) (stop d : Int) (a : Nat → Int) : Nat → Nat → (Nat → Int) → Nat → Int
  | 0, _, b => b
  | e + 1, i, b => nxv M stop d a e (i + 1) (nx1 M stop d a i b)
theorem nx1_c {M : am_M} {stop d : Int} {a a' b b' : Nat → Int} {p : Nat} (hp : p < 13) (ha : ∀ q, q < 13 → a q = a' q) (hb : ∀ q, q < 13 → b q = b' q) : ∀ q, q < 13 → nx1 M stop d a p b q = nx1 M stop d a' p b' q := fun q hq => by
  unfold nx1
  rw [ha p hp, hb q hq]
theorem nxv_c {M : am_M} {stop d : Int} {a a' : Nat → Int} (ha : ∀ q, q < 13 → a q = a' q) : ∀ (e i : Nat) (b b' : Nat → Int), i + e ≤ 13 → (∀ q, q < 13 → b q = b' q) → ∀ q, q < 13 → nxv M stop d a e i b q = nxv M stop d a' e i b' q
  | 0, _, _, _, _, hb => hb
  | e + 1, i, b, b', hi, hb => nxv_c ha e (i + 1) _ _ (by omega) (nx1_c (by omega) ha hb)
theorem nx1_k {M N : am_M} (h : mv_ N = mv_ M) (stop d : Int) (a : Nat → Int) (p : Nat) (b : Nat → Int) : nx1 N stop d a p b = nx1 M stop d a p b := by
  funext q
  unfold nx1 ct
  rw [h]
theorem nxv_k {M N : am_M} (h : mv_ N = mv_ M) (stop d : Int) (a : Nat → Int) : ∀ (e i : Nat) (b : Nat → Int), nxv N stop d a e i b = nxv M stop d a e i b
  | 0, _, _ => rfl
  | e + 1, i, b => by rw [nxv, nxv, nx1_k h, nxv_k h stop d a e (i + 1)]
theorem c_at {N : am_M} {p : Nat} (hp : p < 13) : X_X0_pairsAt_41 p N = some (N 42 p, N) := by
  rw [X_X0_pairsAt_41, wI_of (x := (p : Int)) (by omega) (by omega), if_neg (by omega), if_pos (by omega), if_pos (by omega), Int.toNat_natCast]
theorem c_bring {N : am_M} {b : Nat → Int} {q v : Int} (hq : -1 ≤ q ∧ q ≤ 13) : ∃ b', X_X0_bring_41 q v (am_row N 43 b) = some (0, am_row N 43 b') ∧ ∀ j : Nat, j < 13 → b' j = if (j : Int) = q then b j + v else b j := by
  rw [X_X0_bring_41, wI_of (x := q) (by omega) (by omega)]
  by_cases c1 : q < 0
  · rw [if_pos c1]; exact ⟨b, rfl, fun j _ => by rw [if_neg (by omega)]⟩
  · rw [if_neg c1]
    by_cases c2 : q < 13
    · obtain ⟨t, rfl⟩ := Int.eq_ofNat_of_zero_le (show 0 ≤ q by omega)
      rw [if_pos c2, if_pos (by omega), if_pos (by omega), Int.toNat_natCast, up_row, row_row, row_s]
      refine ⟨_, rfl, fun j _ => ?_⟩
      by_cases e : j = t
      · subst e; rw [if_pos rfl, if_pos rfl]
      · rw [if_neg e, if_neg (by omega)]
    · rw [if_neg c2]; exact ⟨b, rfl, fun j _ => by rw [if_neg (by omega)]⟩
theorem c_go1 (k9 : am_M → am_Rs) {N : am_M} (I : Ic N) {stop d : Int} (hst : -1 ≤ stop ∧ stop ≤ 12) (hd : 0 ≤ d ∧ d < 1000) {p : Nat} (hp : (p : Int) ≤ N 11 0) (b : Nat → Int) (n : Nat) : ∃ b', XL_X0_goOn_41_1 k9 (n + 1) d stop p (am_row N 43 b) = XL_X0_goOn_41_1 k9 n d stop ((p + 1 : Nat) : Int) (am_row N 43 b') ∧ ∀ q, q < 13 → b' q = nx1 N stop d (N 42) p b q := by
  have rs := I.rs
  have hp2 : 0 ≤ (p : Int) ∧ (p : Int) ≤ N 11 0 := by omega
  have at_ : ∀ f : Nat → Int, X_X0_pairsAt_41 p (am_row N 43 f) = some (N 42 p, am_row N 43 f) := fun f => c_at (by omega)
  have tw : X_X0_pairsThatMove_41 p (-1) d (am_row N 43 b) = some (pw (mv_ N p (-1) d), am_row N 43 b) := c_ptm (Kc.ic I (Kc.row (by decide))) hp2 (Or.inl rfl) hd
  have te : X_X0_pairsThatMove_41 p 1 d (am_row N 43 b) = some (pw (mv_ N p 1 d), am_row N 43 b) := c_ptm (Kc.ic I (Kc.row (by decide))) hp2 (Or.inr rfl) hd
  have w1 := pw_r (mv_ N p (-1) d)
  have w2 := pw_r (mv_ N p 1 d)
  by_cases c : (p : Int) = stop
  · obtain ⟨b1, x1, y1⟩ := c_bring (N := N) (b := b) (q := (p : Int) - 1) (v := 0 * N 42 p) (by omega)
    obtain ⟨b2', x2, y2⟩ := c_bring (N := N) (b := b1) (q := (p : Int)) (v := wI (16 - 0 - 0) * N 42 p) (by omega)
    obtain ⟨b3, x3, y3⟩ := c_bring (N := N) (b := b2') (q := (p : Int) + 1) (v := 0 * N 42 p) (by omega)
    refine ⟨b3, ?_, fun q hq => ?_⟩
    · rw [XL_X0_goOn_41_1, XB_X0_goOn_41_1, show (am_row N 43 b) 11 0 = N 11 0 from rfl, wI_of (x := (p : Int)) (by omega) (by omega), wI_of (x := N 11 0) (by omega) (by omega), wI_of (x := stop) (by omega) (by omega), if_neg (by omega), if_pos c, if_pos c, at_, ob]
      dsimp only
      rw [x1, ob]
      dsimp only
      rw [at_, ob]
      dsimp only
      rw [x2, ob]
      dsimp only
      rw [at_, ob]
      dsimp only
      rw [x3, ob, Int.natCast_succ]
    · rw [y3 q hq, y2 q hq, y1 q hq]
      unfold nx1 ct
      rw [if_pos c, Int.zero_mul, Int.add_zero, Int.add_zero, ite_self, show wI (16 - 0 - 0) = 16 from rfl]
      by_cases e : q = p
      · subst e; rw [if_pos rfl, ite_self, if_pos rfl, Int.mul_comm]
      · rw [if_neg (show ¬ (q : Int) = (p : Int) by omega), if_neg e, Int.mul_zero, Int.add_zero, ite_self]
  · have e16 : ∀ _ : Unit, wI (16 - pw (mv_ N p (-1) d) - pw (mv_ N p 1 d)) = 16 - pw (mv_ N p (-1) d) - pw (mv_ N p 1 d) := fun _ => wI_of (by omega) (by omega)
    have eW : ∀ _ : Unit, wI (pw (mv_ N p (-1) d)) = pw (mv_ N p (-1) d) := fun _ => wI_of (by omega) (by omega)
    have eE : ∀ _ : Unit, wI (pw (mv_ N p 1 d)) = pw (mv_ N p 1 d) := fun _ => wI_of (by omega) (by omega)
    obtain ⟨b1, x1, y1⟩ := c_bring (N := N) (b := b) (q := (p : Int) - 1) (v := pw (mv_ N p (-1) d) * N 42 p) (by omega)
    obtain ⟨b2', x2, y2⟩ := c_bring (N := N) (b := b1) (q := (p : Int)) (v := (16 - pw (mv_ N p (-1) d) - pw (mv_ N p 1 d)) * N 42 p) (by omega)
    obtain ⟨b3, x3, y3⟩ := c_bring (N := N) (b := b2') (q := (p : Int) + 1) (v := pw (mv_ N p 1 d) * N 42 p) (by omega)
    refine ⟨b3, ?_, fun q hq => ?_⟩
    · rw [XL_X0_goOn_41_1, XB_X0_goOn_41_1, show (am_row N 43 b) 11 0 = N 11 0 from rfl, wI_of (x := (p : Int)) (by omega) (by omega), wI_of (x := N 11 0) (by omega) (by omega), wI_of (x := stop) (by omega) (by omega), if_neg (by omega), if_neg c, tw, ob]
      dsimp +instances only
      rw [if_neg c, te, ob]
      dsimp only
      rw [at_, ob]
      dsimp only
      rw [eW (), x1, ob]
      dsimp only
      rw [at_, ob]
      dsimp only
      rw [e16 (), x2, ob]
      dsimp only
      rw [at_, ob]
      dsimp only
      rw [eE (), x3, ob, Int.natCast_succ]
    · rw [y3 q hq, y2 q hq, y1 q hq]
      unfold nx1 ct
      rw [if_neg c]
      generalize pw (mv_ N p (-1) d) = w
      generalize pw (mv_ N p 1 d) = e
      generalize N 42 p = A
      by_cases e1 : (q : Int) = p - 1
      · rw [if_neg (by omega), if_neg (by omega), if_pos e1, if_pos e1, if_neg (by omega), if_neg (by omega), Int.add_zero, Int.add_zero, Int.mul_comm]
      · by_cases e2 : q = p
        · subst e2
          rw [if_neg (by omega), if_pos rfl, if_neg e1, if_neg e1, if_pos rfl, if_neg (by omega), Int.zero_add, Int.add_zero, Int.mul_comm]
        · by_cases e3 : q = p + 1
          · rw [if_pos (by omega), if_neg (by omega), if_neg e1, if_neg e1, if_neg e2, if_pos e3, Int.zero_add, Int.zero_add, Int.mul_comm]
          · rw [if_neg (by omega), if_neg (by omega), if_neg e1, if_neg e1, if_neg e2, if_neg e3, Int.zero_add, Int.zero_add, Int.mul_zero, Int.add_zero]
theorem lp_goC (k9 : am_M → am_Rs) {N : am_M} (I : Ic N) {stop d : Int} (hst : -1 ≤ stop ∧ stop ≤ 12) (hd : 0 ≤ d ∧ d < 1000) : ∀ (e n i : Nat) (b : Nat → Int), (i : Int) + e = N 11 0 + 1 → e < n → ∃ b', XL_X0_goOn_41_1 k9 n d stop i (am_row N 43 b) = k9 (am_row N 43 b') ∧ ∀ q, q < 13 → b' q = nxv N stop d (N 42) e i b q := by
  intro e
  induction e with
  | zero =>
    intro n i b hi hn
    have rs := I.rs
    obtain ⟨n, rfl⟩ : ∃ m, n = m + 1 := ⟨n - 1, by omega⟩
    refine ⟨b, ?_, fun q _ => rfl⟩
    rw [XL_X0_goOn_41_1, XB_X0_goOn_41_1, show (am_row N 43 b) 11 0 = N 11 0 from rfl, wI_of (x := (i : Int)) (by omega) (by omega), wI_of (x := N 11 0) (by omega) (by omega), if_pos (by omega)]
  | succ e ih =>
    intro n i b hi hn
    have rs := I.rs
    obtain ⟨n, rfl⟩ : ∃ m, n = m + 1 := ⟨n - 1, by omega⟩
    obtain ⟨b1, x1, y1⟩ := c_go1 k9 I hst hd (p := i) (by omega) b n
    obtain ⟨b', x2, y2⟩ := ih n (i + 1) b1 (by push_cast; omega) (by omega)
    refine ⟨b', x1.trans x2, fun q hq => ?_⟩
    rw [y2 q hq]
    exact nxv_c (fun _ _ => rfl) e (i + 1) _ _ (by omega) y1 q hq
/-- a day by chance of the class -/
theorem sp_goC {M : am_M} (I : Ic M) {stop d : Int} (hst : -1 ≤ stop ∧ stop ≤ 12) (hd : 0 ≤ d ∧ d < 1000) (a b : Nat → Int) : ∃ a' b', X_X0_goOn_41 d stop (am_row (am_row M 42 a) 43 b) = some (0, am_row (am_row M 42 a') 43 b') ∧ ∀ q, q < 13 → a' q = nxv M stop d a (M 11 0 + 1).toNat 0 (fun _ => 0) q := by
  have rs := I.rs
  obtain ⟨b0, f1, f2⟩ := sp_fill43 (am_row (am_row M 42 a) 43 b) 0
  rw [row_row] at f1
  have B : Ic (am_row M 42 a) := Kc.ic I (Kc.row (by decide))
  obtain ⟨b1, g1, g2⟩ := lp_goC XB_X0_goOn_41_9 B hst hd (M 11 0 + 1).toNat 1000 0 b0 (show ((0 : Nat) : Int) + _ = M 11 0 + 1 by omega) (by omega)
  rw [show ((0 : Nat) : Int) = 0 from rfl] at g1
  have cp : am_cpy (am_row (am_row M 42 a) 43 b1) 43 42 0 0 13 = am_row (am_row M 42 fun j => if j < 13 then b1 j else a j) 43 b1 := by
    unfold am_cpy
    rw [row_c (M := M) (a := 42) (b := 43) (by decide), row_row, row_s, row_c (a := 43) (b := 42) (by decide), row_a (show 43 ≠ 42 by decide), row_s]
    refine congrArg (fun F => am_row (am_row M 42 F) 43 b1) (funext fun j => ?_)
    exact cpy_v
  refine ⟨fun j => if j < 13 then b1 j else a j, b1, ?_, fun q hq => ?_⟩
  · rw [X_X0_goOn_41, XB_X0_goOn_41_e, f1, ob]
    dsimp only
    rw [g1, XB_X0_goOn_41_9, cp]
  · show (if q < 13 then b1 q else a q) = _
    rw [if_pos hq, g2 q hq]
    have e42 : (am_row M 42 a) 42 = a := row_s
    rw [e42, nxv_k (M := M) (N := am_row M 42 a) rfl]
    exact nxv_c (M := M) (fun _ _ => rfl) (M 11 0 + 1).toNat 0 b0 (fun _ => 0) (by omega) f2 q hq
/-- where the border may be, by how many pairs, behind k days -/
noncomputable def fv (M : am_M) (stop : Int) : Nat → Nat → Int
  | 0, q => if (q : Int) = M 14 1 then 1 else 0
  | k + 1, q => nxv M stop (M 14 0 + k) (fv M stop k) (M 11 0 + 1).toNat 0 (fun _ => 0) q
theorem ct_r (M : am_M) (stop d : Int) (p q : Nat) : 0 ≤ ct M stop d p q ∧ ct M stop d p q ≤ 16 := by
  have w1 := pw_r (mv_ M p (-1) d)
  have w2 := pw_r (mv_ M p 1 d)
  unfold ct
  generalize pw (mv_ M p (-1) d) = w at w1 ⊢
  generalize pw (mv_ M p 1 d) = e at w2 ⊢
  by_cases c : (p : Int) = stop
  · rw [if_pos c]; split <;> omega
  · rw [if_neg c]
    by_cases e1 : (q : Int) = p - 1
    · rw [if_pos e1, if_neg (by omega), if_neg (by omega)]; omega
    · by_cases e2 : q = p
      · rw [if_neg e1, if_pos e2, if_neg (by omega)]; omega
      · by_cases e3 : q = p + 1
        · rw [if_neg e1, if_neg e2, if_pos e3]; omega
        · rw [if_neg e1, if_neg e2, if_neg e3]; omega
theorem nxv_r {M : am_M} {stop d : Int} {a : Nat → Int} {B : Int} (ha : ∀ p, p < 13 → 0 ≤ a p ∧ a p ≤ B) : ∀ (e i : Nat) (b : Nat → Int) (T : Int), i + e ≤ 13 → (∀ q, q < 13 → 0 ≤ b q ∧ b q ≤ T) → ∀ q, q < 13 → 0 ≤ nxv M stop d a e i b q ∧ nxv M stop d a e i b q ≤ T + 16 * B * e
  | 0, i, b, T, _, hb => fun q hq => by have := hb q hq; show 0 ≤ b q ∧ b q ≤ T + 16 * B * (0 : Nat); omega
  | e + 1, i, b, T, hi, hb => fun q hq => by
    have h := nxv_r (M := M) (stop := stop) (d := d) ha e (i + 1) (nx1 M stop d a i b) (T + 16 * B) (by omega) (fun q hq => by
      have h1 := hb q hq
      have h2 := ha i (by omega)
      have h3 := ct_r M stop d i q
      unfold nx1
      have h4 : 0 ≤ a i * ct M stop d i q := Int.mul_nonneg h2.1 h3.1
      have h5 : a i * ct M stop d i q ≤ B * 16 := Int.le_trans (Int.mul_le_mul_of_nonneg_right h2.2 h3.1) (Int.mul_le_mul_of_nonneg_left h3.2 (by omega))
      omega) q hq
    have e1 : T + 16 * B + 16 * B * e = T + 16 * B * ((e + 1 : Nat) : Int) := by rw [Int.natCast_succ, Int.mul_add]; omega
    rw [e1] at h
    exact h
theorem fv_r {M : am_M} (I : Ic M) (stop : Int) : ∀ (k q : Nat), q < 13 → 0 ≤ fv M stop k q ∧ fv M stop k q ≤ 208 ^ k
  | 0, q, _ => by unfold fv; split <;> decide
  | k + 1, q, hq => by
    have rs := I.rs
    have h := nxv_r (M := M) (stop := stop) (d := M 14 0 + k) (a := fv M stop k) (B := 208 ^ k) (fun p hp => fv_r I stop k p hp) (M 11 0 + 1).toNat 0 (fun _ => 0) 0 (by omega) (fun _ _ => by decide) q hq
    have hb : (0 : Int) ≤ 208 ^ k := by have := fv_r I stop k q hq; omega
    unfold fv
    refine ⟨h.1, Int.le_trans h.2 ?_⟩
    rw [Int.pow_succ, Int.zero_add, Int.mul_comm 16, Int.mul_assoc]
    exact Int.mul_le_mul_of_nonneg_left (by omega) hb
theorem lp_endC (k3 : Int → am_M → am_Rs) {M : am_M} (I : Ic M) (t : Int) {n : Nat} (hn : n ≤ 6) : ∀ (e n1 k : Nat) (a b : Nat → Int), k + e = n → e < n1 → (∀ q, q < 13 → a q = fv M (-1) k q) → ∃ a' b', XL_X0_pairsEndingAt_41_1 k3 n1 t n k (am_row (am_row M 42 a) 43 b) = k3 t (am_row (am_row M 42 a') 43 b') ∧ ∀ q, q < 13 → a' q = fv M (-1) n q := by
  intro e
  induction e with
  | zero =>
    intro n1 k a b hk hn1 ha
    obtain ⟨n1, rfl⟩ : ∃ m, n1 = m + 1 := ⟨n1 - 1, by omega⟩
    refine ⟨a, b, ?_, by rw [← hk, Nat.add_zero]; exact ha⟩
    rw [XL_X0_pairsEndingAt_41_1, XB_X0_pairsEndingAt_41_1, wI_of (x := (k : Int)) (by omega) (by omega), wI_of (x := (n : Int)) (by omega) (by omega), if_neg (by omega)]
  | succ e ih =>
    intro n1 k a b hk hn1 ha
    have r0 := I.r0
    have rs := I.rs
    obtain ⟨n1, rfl⟩ : ∃ m, n1 = m + 1 := ⟨n1 - 1, by omega⟩
    obtain ⟨a1, b1, g1, g2⟩ := sp_goC I (stop := -1) (d := M 14 0 + k) (by decide) (by omega) a b
    obtain ⟨a', b', h1, h2⟩ := ih n1 (k + 1) a1 b1 (by omega) (by omega) (fun q hq => by rw [g2 q hq]; exact nxv_c ha (M 11 0 + 1).toNat 0 _ _ (by omega) (fun _ _ => rfl) q hq)
    refine ⟨a', b', ?_, h2⟩
    rw [XL_X0_pairsEndingAt_41_1, XB_X0_pairsEndingAt_41_1, wI_of (x := (k : Int)) (by omega) (by omega), wI_of (x := (n : Int)) (by omega) (by omega), if_pos (by omega), show (am_row (am_row M 42 a) 43 b) 14 0 = M 14 0 from rfl, g1, ob]
    exact h1
theorem lp_metC (k3 : Int → am_M → am_Rs) {M : am_M} (I : Ic M) {t : Int} (ht : 0 ≤ t ∧ t ≤ 12) {n : Nat} (hn : n ≤ 6) : ∀ (e n1 k : Nat) (a b : Nat → Int), k + e = n → e < n1 → (∀ q, q < 13 → a q = fv M t k q) → ∃ a' b', XL_X0_pairsMeeting_41_1 k3 n1 t n k (am_row (am_row M 42 a) 43 b) = k3 t (am_row (am_row M 42 a') 43 b') ∧ ∀ q, q < 13 → a' q = fv M t n q := by
  intro e
  induction e with
  | zero =>
    intro n1 k a b hk hn1 ha
    obtain ⟨n1, rfl⟩ : ∃ m, n1 = m + 1 := ⟨n1 - 1, by omega⟩
    refine ⟨a, b, ?_, by rw [← hk, Nat.add_zero]; exact ha⟩
    rw [XL_X0_pairsMeeting_41_1, XB_X0_pairsMeeting_41_1, wI_of (x := (k : Int)) (by omega) (by omega), wI_of (x := (n : Int)) (by omega) (by omega), if_neg (by omega)]
  | succ e ih =>
    intro n1 k a b hk hn1 ha
    have r0 := I.r0
    have rs := I.rs
    obtain ⟨n1, rfl⟩ : ∃ m, n1 = m + 1 := ⟨n1 - 1, by omega⟩
    obtain ⟨a1, b1, g1, g2⟩ := sp_goC I (stop := t) (d := M 14 0 + k) (by omega) (by omega) a b
    obtain ⟨a', b', h1, h2⟩ := ih n1 (k + 1) a1 b1 (by omega) (by omega) (fun q hq => by rw [g2 q hq]; exact nxv_c ha (M 11 0 + 1).toNat 0 _ _ (by omega) (fun _ _ => rfl) q hq)
    refine ⟨a', b', ?_, h2⟩
    rw [XL_X0_pairsMeeting_41_1, XB_X0_pairsMeeting_41_1, wI_of (x := (k : Int)) (by omega) (by omega), wI_of (x := (n : Int)) (by omega) (by omega), if_pos (by omega), show (am_row (am_row M 42 a) 43 b) 14 0 = M 14 0 from rfl, g1, ob]
    exact h1
theorem sp_begin {M : am_M} (I : Ic M) (stop : Int) : ∃ a, X_X0_begin_41 M = some (0, am_row M 42 a) ∧ ∀ q, q < 13 → a q = fv M stop 0 q := by
  have r1 := I.r1
  have rs := I.rs
  obtain ⟨f, f1, f2⟩ := sp_fill42 M 0
  obtain ⟨t, ht⟩ := Int.eq_ofNat_of_zero_le r1.1
  refine ⟨fun j => if j = t then 1 else f j, ?_, fun q hq => ?_⟩
  · rw [X_X0_begin_41, f1, ob]
    dsimp +instances only
    rw [show (am_row M 42 f) 14 1 = M 14 1 from rfl, ht, wI_of (x := (t : Int)) (by omega) (by omega), if_neg (by omega), if_pos (by omega), if_pos (by omega), Int.toNat_natCast, up_row, row_row, row_s]
  · show (if q = t then 1 else f q) = if (q : Int) = M 14 1 then 1 else 0
    by_cases c : q = t
    · rw [if_pos c, if_pos (by omega)]
    · rw [if_neg c, if_neg (by omega), f2 q hq]
theorem sp_ending {M : am_M} (I : Ic M) {t : Nat} (ht : t < 13) {n : Nat} (hn : n ≤ 6) : ∃ N, X_X0_pairsEndingAt_41 t n M = some (fv M (-1) n t, N) ∧ Kp M N := by
  obtain ⟨a, a1, a2⟩ := sp_begin I (-1)
  obtain ⟨a', b', h1, h2⟩ := lp_endC XB_X0_pairsEndingAt_41_3 I t hn n 1000 0 a (M 43) (by omega) (by omega) a2
  rw [show am_row (am_row M 42 a) 43 (M 43) = am_row M 42 a from row_self (am_row M 42 a) 43, show ((0 : Nat) : Int) = 0 from rfl] at h1
  refine ⟨am_row (am_row M 42 a') 43 b', ?_, (Kp.row (by decide)).tr (Kp.row (by decide))⟩
  rw [X_X0_pairsEndingAt_41, XB_X0_pairsEndingAt_41_e, a1, ob]
  dsimp only
  rw [h1, XB_X0_pairsEndingAt_41_3, c_at ht, ob, row_a (by decide), row_s, h2 t ht]
theorem sp_meeting {M : am_M} (I : Ic M) {t : Nat} (ht : t < 13) {n : Nat} (hn : n ≤ 6) : ∃ N, X_X0_pairsMeeting_41 t n M = some (fv M t n t, N) ∧ Kp M N := by
  obtain ⟨a, a1, a2⟩ := sp_begin I t
  obtain ⟨a', b', h1, h2⟩ := lp_metC XB_X0_pairsMeeting_41_3 I (t := t) (by omega) hn n 1000 0 a (M 43) (by omega) (by omega) a2
  rw [show am_row (am_row M 42 a) 43 (M 43) = am_row M 42 a from row_self (am_row M 42 a) 43, show ((0 : Nat) : Int) = 0 from rfl] at h1
  refine ⟨am_row (am_row M 42 a') 43 b', ?_, (Kp.row (by decide)).tr (Kp.row (by decide))⟩
  rw [X_X0_pairsMeeting_41, XB_X0_pairsMeeting_41_e, a1, ob]
  dsimp only
  rw [h1, XB_X0_pairsMeeting_41_3, c_at ht, ob, row_a (by decide), row_s, h2 t ht]
/-! the mean of what a strip pays -/
noncomputable def tx (d : Int) (D : Int → Int) (q : Int) : Int := if d % 10 = 9 ∧ d < 40 then D q else 0
noncomputable def pv (M : am_M) (D : Int → Int) : Nat → Int
  | 0 => 0
  | k + 1 => pv M D k * 16 + dot (M 11 0) (fv M (-1) (k + 1)) (tx (M 14 0 + k) D)
theorem lp_duesNow (k3 : Int → am_M → am_Rs) {N : am_M} (I : Ic N) {i : Int} (hi : 0 ≤ i ∧ i < N 11 0) : ∀ (e n q : Nat) (acc : Int), (q : Int) + e = N 11 0 + 1 → e < n → XL_X0_duesNow_41_1 k3 n i acc q N = k3 (acc + sf (fun q => N 42 q * db_ N i q) q e) N := by
  intro e
  induction e with
  | zero =>
    intro n q acc hq hn
    have rs := I.rs
    obtain ⟨n, rfl⟩ : ∃ m, n = m + 1 := ⟨n - 1, by omega⟩
    rw [XL_X0_duesNow_41_1, XB_X0_duesNow_41_1, wI_of (x := (q : Int)) (by omega) (by omega), wI_of (x := N 11 0) (by omega) (by omega), if_pos (by omega)]
    simp only [sf, Int.add_zero]
  | succ e ih =>
    intro n q acc hq hn
    have rs := I.rs
    obtain ⟨n, rfl⟩ : ∃ m, n = m + 1 := ⟨n - 1, by omega⟩
    have hw : wI (du_ N 0 i q + du_ N 1 i q) = db_ N i q := by
      have h1 := kdu_r I 0 i q
      have h2 := kdu_r I 1 i q
      unfold db_
      generalize du_ N 0 i q = x at h1 ⊢
      generalize du_ N 1 i q = y at h2 ⊢
      exact wI_of (by omega) (by omega)
    have ih := ih n (q + 1) (acc + N 42 q * db_ N i q) (by push_cast; omega) (by omega)
    rw [XL_X0_duesNow_41_1, XB_X0_duesNow_41_1, wI_of (x := (q : Int)) (by omega) (by omega), wI_of (x := N 11 0) (by omega) (by omega), if_neg (by omega), c_at (by omega), ob]
    dsimp only
    rw [kc_both I hi (by omega), ob]
    dsimp only
    rw [hw]
    simp only [sf]
    rw [← Int.add_assoc]
    exact ih
theorem lp_duesOf (k5 : Int → am_M → am_Rs) {M : am_M} (I : Ic M) {i : Int} (hi : 0 ≤ i ∧ i < M 11 0) {n : Nat} (hn : n ≤ 6) : ∀ (e n1 k : Nat) (a b : Nat → Int), k + e = n → e < n1 → (∀ q, q < 13 → a q = fv M (-1) k q) → ∃ a' b', XL_X0_duesOf_41_1 k5 n1 i n (pv M (db_ M i) k) k (am_row (am_row M 42 a) 43 b) = k5 (pv M (db_ M i) n) (am_row (am_row M 42 a') 43 b') := by
  intro e
  induction e with
  | zero =>
    intro n1 k a b hk hn1 ha
    obtain ⟨n1, rfl⟩ : ∃ m, n1 = m + 1 := ⟨n1 - 1, by omega⟩
    refine ⟨a, b, ?_⟩
    rw [XL_X0_duesOf_41_1, XB_X0_duesOf_41_1, wI_of (x := (k : Int)) (by omega) (by omega), wI_of (x := (n : Int)) (by omega) (by omega), if_neg (by omega), show k = n by omega]
  | succ e ih =>
    intro n1 k a b hk hn1 ha
    have r0 := I.r0
    have rs := I.rs
    obtain ⟨n1, rfl⟩ : ∃ m, n1 = m + 1 := ⟨n1 - 1, by omega⟩
    obtain ⟨a1, b1, g1, g2⟩ := sp_goC I (stop := -1) (d := M 14 0 + k) (by decide) (by omega) a b
    have ha1 : ∀ q, q < 13 → a1 q = fv M (-1) (k + 1) q := fun q hq => by rw [g2 q hq]; exact nxv_c ha (M 11 0 + 1).toNat 0 _ _ (by omega) (fun _ _ => rfl) q hq
    obtain ⟨a', b', h1⟩ := ih n1 (k + 1) a1 b1 (by omega) (by omega) ha1
    refine ⟨a', b', ?_⟩
    have B : Ic (am_row (am_row M 42 a1) 43 b1) := Kc.ic I ((Kc.row (by decide)).tr (Kc.row (by decide)))
    have st : XL_X0_duesOf_41_1 k5 (n1 + 1) i n (pv M (db_ M i) k) k (am_row (am_row M 42 a) 43 b) = XL_X0_duesOf_41_1 k5 n1 i n (pv M (db_ M i) (k + 1)) ((k + 1 : Nat) : Int) (am_row (am_row M 42 a1) 43 b1) := by
      rw [XL_X0_duesOf_41_1, XB_X0_duesOf_41_1, wI_of (x := (k : Int)) (by omega) (by omega), wI_of (x := (n : Int)) (by omega) (by omega), if_pos (by omega), show (am_row (am_row M 42 a) 43 b) 14 0 = M 14 0 from rfl, g1, ob]
      dsimp only
      rw [show (am_row (am_row M 42 a1) 43 b1) 14 0 = M 14 0 from rfl, c_tax (by omega), ob]
      dsimp +instances only
      rw [pv]
      by_cases c : (M 14 0 + k) % 10 = 9 ∧ M 14 0 + k < 40
      · have l := lp_duesNow XB_X0_duesNow_41_3 B (i := i) hi (M 11 0 + 1).toNat 1000 0 0 (show ((0 : Nat) : Int) + _ = M 11 0 + 1 by omega) (by omega)
        rw [show ((0 : Nat) : Int) = 0 from rfl, Int.zero_add] at l
        rw [if_neg (show ¬ wI (b2 ((M 14 0 + k) % 10 = 9 ∧ M 14 0 + k < 40)) = 0 by rw [b2_t c]; decide), X_X0_duesNow_41, XB_X0_duesNow_41_e, l, XB_X0_duesNow_41_3, ob]
        dsimp only
        rw [← Int.natCast_succ]
        refine congrArg (fun F => XL_X0_duesOf_41_1 k5 n1 i n (pv M (db_ M i) k * 16 + F) ((k + 1 : Nat) : Int) (am_row (am_row M 42 a1) 43 b1)) ?_
        unfold dot
        refine sf_c _ _ (fun q _ hq => ?_)
        show (am_row (am_row M 42 a1) 43 b1) 42 q * db_ M i q = fv M (-1) (k + 1) q * tx (M 14 0 + k) (db_ M i) q
        rw [row_a (by decide), row_s, ha1 q (by omega)]
        unfold tx
        rw [if_pos c]
      · rw [if_pos (show wI (b2 ((M 14 0 + k) % 10 = 9 ∧ M 14 0 + k < 40)) = 0 by rw [b2_f c]; rfl), ← Int.natCast_succ]
        have z : dot (M 11 0) (fv M (-1) (k + 1)) (tx (M 14 0 + k) (db_ M i)) = 0 := by
          unfold dot
          rw [sf_c (b := fun _ => 0) _ _ (fun q _ _ => by show fv M (-1) (k + 1) q * tx (M 14 0 + k) (db_ M i) q = 0; unfold tx; rw [if_neg c, Int.mul_zero]), sf_zero]
        rw [z, Int.add_zero]
    exact st.trans h1
theorem sp_duesOf {M : am_M} (I : Ic M) {i : Int} (hi : 0 ≤ i ∧ i < M 11 0) {n : Nat} (hn : n ≤ 6) : ∃ N, X_X0_duesOf_41 i n M = some (pv M (db_ M i) n, N) ∧ Kp M N := by
  obtain ⟨a, a1, a2⟩ := sp_begin I (-1)
  obtain ⟨a', b', h1⟩ := lp_duesOf XB_X0_duesOf_41_5 I hi hn n 1000 0 a (M 43) (by omega) (by omega) a2
  rw [show am_row (am_row M 42 a) 43 (M 43) = am_row M 42 a from row_self (am_row M 42 a) 43, show ((0 : Nat) : Int) = 0 from rfl] at h1
  refine ⟨am_row (am_row M 42 a') 43 b', ?_, (Kp.row (by decide)).tr (Kp.row (by decide))⟩
  rw [X_X0_duesOf_41, XB_X0_duesOf_41_e, a1, ob]
  exact h1
