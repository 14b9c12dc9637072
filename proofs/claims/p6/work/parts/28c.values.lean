/-! The reference's table, and its row of the first best moves. -/
/-- the reference's values stand ready: the land, what counts, whose; what a move costs -/
noncomputable def MlI (N : am_M) (cn wh : Int) (C : Nat → Int → Int → Int) : Prop := Ic N ∧ N 53 22 = cn ∧ N 53 23 = wh ∧ (∀ M' : am_M, Kc N M' → M' 53 22 = cn → M' 53 23 = wh → ∀ (k : Nat) (p m : Int), k < 20 → (0 ≤ p ∧ p ≤ N 11 0) → mvs m → mv_ N p m (N 14 0 + k) ≠ -1 → X_X9_costOf_53 p (N 14 0 + k) m M' = some (C k p m, M')) ∧ ∀ k p m, -2000 ≤ C k p m ∧ C k p m ≤ 2000
theorem MlI.k {M M' : am_M} {cn wh : Int} {C : Nat → Int → Int → Int} (P : MlI M cn wh C) (h : Kc M M') (h22 : M' 53 22 = M 53 22) (h23 : M' 53 23 = M 53 23) : MlI M' cn wh C := by
  have q11 := h.1 11 (by decide)
  have q12 := h.1 12 (by decide)
  have q14 := h.1 14 (by decide)
  have km : mv_ M' = mv_ M := by funext b m d; unfold mv_; rw [q11, q12]
  refine ⟨Kc.ic P.1 h, by rw [h22]; exact P.2.1, by rw [h23]; exact P.2.2.1, ?_, P.2.2.2.2⟩
  rw [km, q14, q11]
  exact fun M2 g => P.2.2.2.1 M2 (h.tr g)
theorem m_valBy {N : am_M} {cn wh : Int} {C : Nat → Int → Int → Int} (P : MlI N cn wh C) {f : Nat → Int} {V : Int → Option Int} {k : Nat} (hk : k < 20) (hV : ∀ q : Nat, (q : Int) ≤ N 11 0 → f (13 * (k + 1) + q) = enc 1048576 (V q)) (hO : ∀ q, okO (V q) 38000) {p m : Int} (hp : 0 ≤ p ∧ p ≤ N 11 0) (hm : m = -1 ∨ m = 0 ∨ m = 1) : X_X9_valueBy_53 k p m (am_row N 64 f) = some (enc 1048576 (byO (mv_ N) C (N 14 0) V k p m), am_row N 64 f) := by
  obtain ⟨I, h1, h2, h3, h4⟩ := P
  have r0 := I.r0
  have rs := I.rs
  have B : Ic (am_row N 64 f) := Kc.ic I (Kc.row (by decide))
  have s1 : X_X9_canBe_53 p (N 14 0 + k) m (am_row N 64 f) = some (b2 (mv_ N p m (N 14 0 + k) ≠ -1), am_row N 64 f) := km_can B hp (by omega) (by omega)
  rw [X_X9_valueBy_53, show (am_row N 64 f) 54 0 = N 14 0 from I.d0, s1, ob]
  dsimp +instances only
  unfold byO
  by_cases c : mv_ N p m (N 14 0 + k) = -1
  · rw [if_pos (show wI (b2 (mv_ N p m (N 14 0 + k) ≠ -1)) = 0 by rw [b2_f (fun q => q c)]; rfl), if_pos c]; rfl
  · rw [if_neg (show ¬ wI (b2 (mv_ N p m (N 14 0 + k) ≠ -1)) = 0 by rw [b2_t c]; decide), if_neg c]
    have hb := mv_in hm hp c
    obtain ⟨q, hq⟩ := Int.eq_ofNat_of_zero_le hb.1
    have e : ∀ _ : Unit, wI (13 * ((k : Int) + 1) + p + m) = ((13 * (k + 1) + q : Nat) : Int) := fun _ => by rw [wI_of (by omega) (by omega)]; push_cast; omega
    have hx : (am_row N 64 f) 64 (13 * (k + 1) + q) = enc 1048576 (V (p + m)) := by rw [row_s, hV q (by omega), ← hq]
    have co := h3 (am_row N 64 f) (Kc.row (by decide)) h1 h2 k p m hk hp hm c
    have ho := hO (p + m)
    rw [e (), Int.toNat_natCast, if_pos (by omega), hx]
    generalize V (p + m) = W at ho ⊢
    cases W with
    | none => rw [if_neg (by decide)]; rfl
    | some y =>
      have hy := ho y rfl
      show (if wI y < 1048576 then _ else _) = _
      rw [wI_of (x := y) (by omega) (by omega), if_pos (by omega), co, ob]
      show some (C k p m + y, _) = some (y + C k p m, _)
      rw [Int.add_comm]
theorem m_lv1 (kk : Int → Int → Int → am_M → am_Rs) {N : am_M} {cn wh : Int} {C : Nat → Int → Int → Int} (P : MlI N cn wh C) {f : Nat → Int} {V : Int → Option Int} {k : Nat} (hk : k < 20) (hV : ∀ q : Nat, (q : Int) ≤ N 11 0 → f (13 * (k + 1) + q) = enc 1048576 (V q)) (hO : ∀ q, okO (V q) 38000) {p m : Int} (hp : 0 ≤ p ∧ p ≤ N 11 0) (hm : m = -1 ∨ m = 0 ∨ m = 1) (n : Nat) {a : Option Int} (ha : okO a 40000) : XL_X9_layValues_53_12 kk (n + 1) k p (enc 1048576 a) m (am_row N 64 f) = XL_X9_layValues_53_12 kk n k p (enc 1048576 (omin a (byO (mv_ N) C (N 14 0) V k p m))) (m + 1) (am_row N 64 f) := by
  have hb : okO (byO (mv_ N) C (N 14 0) V k p m) 40000 := byO_ok hO P.2.2.2.2
  rw [XL_X9_layValues_53_12, XB_X9_layValues_53_12, wI_of (x := m) (by omega) (by omega), if_pos (by omega), m_valBy P hk hV hO hp hm, ob]
  dsimp +instances only
  rw [wIm ha, wIm hb, ← enc_min ha hb (by decide)]
  split <;> rfl
theorem m_lv {N : am_M} {cn wh : Int} {C : Nat → Int → Int → Int} (P : MlI N cn wh C) (kk : Int → Int → Int → am_M → am_Rs) {f : Nat → Int} {V : Int → Option Int} {k : Nat} (hk : k < 20) (hV : ∀ q : Nat, (q : Int) ≤ N 11 0 → f (13 * (k + 1) + q) = enc 1048576 (V q)) (hO : ∀ q, okO (V q) 38000) {p : Int} (hp : 0 ≤ p ∧ p ≤ N 11 0) : XL_X9_layValues_53_12 kk 1000 k p 1048576 (-1) (am_row N 64 f) = kk k p (enc 1048576 (stO (mv_ N) C (N 14 0) V k p)) (am_row N 64 f) := by
  have hb : ∀ m, okO (byO (mv_ N) C (N 14 0) V k p m) 40000 := fun m => byO_ok hO P.2.2.2.2
  have e1 : XL_X9_layValues_53_12 kk 1000 k p 1048576 (-1) (am_row N 64 f) = _ := m_lv1 kk P hk hV hO hp (m := -1) (Or.inl rfl) 999 (a := none) (okO.n _)
  have e2 : ∀ a, okO a 40000 → XL_X9_layValues_53_12 kk 999 k p (enc 1048576 a) (-1 + 1) (am_row N 64 f) = _ := fun a ha => m_lv1 kk P hk hV hO hp (m := -1 + 1) (Or.inr (Or.inl rfl)) 998 ha
  have e3 : ∀ a, okO a 40000 → XL_X9_layValues_53_12 kk 998 k p (enc 1048576 a) (-1 + 1 + 1) (am_row N 64 f) = _ := fun a ha => m_lv1 kk P hk hV hO hp (m := -1 + 1 + 1) (Or.inr (Or.inr rfl)) 997 ha
  rw [e1, e2 _ ((okO.n _).min (hb _)), e3 _ (((okO.n _).min (hb _)).min (hb _)), XL_X9_layValues_53_12, XB_X9_layValues_53_12, if_neg (show ¬ wI (-1 + 1 + 1 + 1) < 2 by decide)]
  rfl
theorem lp_v1 (kk : Int → am_M → am_Rs) {N : am_M} (I : Ic N) {g : Int → Option Int} {goal : Int} {n : Nat} (hn : n ≤ 20) (hg : ∀ p : Nat, (p : Int) ≤ N 11 0 → enc 1048576 (g p) = if goal = -1 ∨ goal = p then 0 else 1048576) (hgo : -1 ≤ goal ∧ goal ≤ 12) : ∀ (e n1 i : Nat) (f : Nat → Int), (i : Int) + e = N 11 0 + 1 → e < n1 → (∀ p : Nat, p < i → f (13 * n + p) = enc 1048576 (g p)) → ∃ f', XL_X9_layValues_53_1 kk n1 n goal i (am_row N 64 f) = kk n (am_row N 64 f') ∧ ∀ p : Nat, (p : Int) ≤ N 11 0 → f' (13 * n + p) = enc 1048576 (g p) := by
  intro e
  induction e with
  | zero =>
    intro n1 i f hi hn1 hf
    have rs := I.rs
    obtain ⟨n1, rfl⟩ : ∃ m, n1 = m + 1 := ⟨n1 - 1, by omega⟩
    refine ⟨f, ?_, fun p hp => hf p (by omega)⟩
    rw [XL_X9_layValues_53_1, XB_X9_layValues_53_1, show (am_row N 64 f) 53 1 = N 11 0 from I.es, wI_of (x := (i : Int)) (by omega) (by omega), wI_of (x := N 11 0) (by omega) (by omega), if_pos (by omega)]
  | succ e ih =>
    intro n1 i f hi hn1 hf
    have rs := I.rs
    obtain ⟨n1, rfl⟩ : ∃ m, n1 = m + 1 := ⟨n1 - 1, by omega⟩
    have hgi := hg i (by omega)
    obtain ⟨f', a1, a2⟩ := ih n1 (i + 1) (fun j => if j = 13 * n + i then enc 1048576 (g i) else f j) (by push_cast; omega) (by omega) (fun p hp => by
      by_cases c : p = i
      · subst c; rw [if_pos rfl]
      · rw [if_neg (by omega)]; exact hf p (by omega))
    refine ⟨f', ?_, a2⟩
    have e1 : ∀ _ : Unit, wI (13 * (n : Int) + i) = ((13 * n + i : Nat) : Int) := fun _ => by rw [wI_of (by omega) (by omega)]; push_cast; omega
    rw [XL_X9_layValues_53_1, XB_X9_layValues_53_1, show (am_row N 64 f) 53 1 = N 11 0 from I.es, wI_of (x := (i : Int)) (by omega) (by omega), wI_of (x := N 11 0) (by omega) (by omega), if_neg (by omega), wI_of (x := goal) (by omega) (by omega)]
    simp only [e1 (), Int.toNat_natCast, up_row, row_row, row_s]
    rw [if_pos (show 0 ≤ ((13 * n + i : Nat) : Int) ∧ ((13 * n + i : Nat) : Int) < 273 by omega), if_pos (show 0 ≤ ((13 * n + i : Nat) : Int) ∧ ((13 * n + i : Nat) : Int) < 273 by omega)]
    by_cases c1 : goal = -1
    · rw [if_pos (Or.inl c1)] at hgi
      rw [hgi] at a1
      rw [if_pos (by omega)]
      exact a1
    · rw [if_neg (show ¬ goal < 0 by omega)]
      by_cases c2 : goal = i
      · rw [if_pos (Or.inr c2)] at hgi
        rw [hgi] at a1
        rw [if_pos c2.symm]
        exact a1
      · rw [if_neg (by omega)] at hgi
        rw [hgi] at a1
        rw [if_neg (fun h => c2 h.symm)]
        exact a1
theorem lp_v10 (kk : Int → am_M → am_Rs) {N : am_M} {cn wh : Int} {C : Nat → Int → Int → Int} (P : MlI N cn wh C) {U : Nat → Int → Option Int} {n k : Nat} (hn : n ≤ 20) (hk : k < n) (hU : ∀ p, U k p = stO (mv_ N) C (N 14 0) (U (k + 1)) k p) (hO : ∀ q, okO (U (k + 1) q) 38000) : ∀ (e n1 i : Nat) (f : Nat → Int), (i : Int) + e = N 11 0 + 1 → e < n1 → Tb 1048576 (N 11 0) U n (k + 1) f → (∀ p : Nat, p < i → f (13 * k + p) = enc 1048576 (U k p)) → ∃ f', XL_X9_layValues_53_10 kk n1 k i (am_row N 64 f) = kk k (am_row N 64 f') ∧ Tb 1048576 (N 11 0) U n k f' := by
  intro e
  induction e with
  | zero =>
    intro n1 i f hi hn1 hT hf
    have rs := P.1.rs
    obtain ⟨n1, rfl⟩ : ∃ m, n1 = m + 1 := ⟨n1 - 1, by omega⟩
    refine ⟨f, ?_, fun k' h1 h2 p hp => ?_⟩
    · rw [XL_X9_layValues_53_10, XB_X9_layValues_53_10, show (am_row N 64 f) 53 1 = N 11 0 from P.1.es, wI_of (x := (i : Int)) (by omega) (by omega), wI_of (x := N 11 0) (by omega) (by omega), if_pos (by omega)]
    · rcases Nat.lt_or_eq_of_le h1 with h | h
      · exact hT k' h h2 p hp
      · subst h; exact hf p (by omega)
  | succ e ih =>
    intro n1 i f hi hn1 hT hf
    have rs := P.1.rs
    obtain ⟨n1, rfl⟩ : ∃ m, n1 = m + 1 := ⟨n1 - 1, by omega⟩
    obtain ⟨f', a1, a2⟩ := ih n1 (i + 1) (fun j => if j = 13 * k + i then enc 1048576 (U k i) else f j) (by push_cast; omega) (by omega) (fun k' h1 h2 p hp => by show (if 13 * k' + p = 13 * k + i then _ else _) = _; rw [if_neg (by omega)]; exact hT k' h1 h2 p hp) (fun p hp => by
      by_cases c : p = i
      · subst c; rw [if_pos rfl]
      · rw [if_neg (by omega)]; exact hf p (by omega))
    refine ⟨f', ?_, a2⟩
    have e1 : ∀ _ : Unit, wI (13 * (k : Int) + i) = ((13 * k + i : Nat) : Int) := fun _ => by rw [wI_of (by omega) (by omega)]; push_cast; omega
    rw [XL_X9_layValues_53_10, XB_X9_layValues_53_10, show (am_row N 64 f) 53 1 = N 11 0 from P.1.es, wI_of (x := (i : Int)) (by omega) (by omega), wI_of (x := N 11 0) (by omega) (by omega), if_neg (by omega), m_lv P _ (V := U (k + 1)) (by omega) (fun q hq => hT (k + 1) (by omega) (by omega) q hq) hO (by omega), XB_X9_layValues_53_17, e1 (), if_pos (by omega), Int.toNat_natCast, up_row, row_row, row_s, ← hU]
    exact a1
theorem lp_v8 (kk : am_M → am_Rs) {N : am_M} {cn wh : Int} {C : Nat → Int → Int → Int} (P : MlI N cn wh C) {U : Nat → Int → Option Int} {n : Nat} (hn : n ≤ 20) (hU : ∀ k, k < n → ∀ p, U k p = stO (mv_ N) C (N 14 0) (U (k + 1)) k p) (hO : ∀ k, 1 ≤ k → ∀ q, okO (U k q) 38000) : ∀ (e n1 : Nat) (f : Nat → Int), e ≤ n → e < n1 → Tb 1048576 (N 11 0) U n e f → ∃ f', XL_X9_layValues_53_8 kk n1 ((e : Int) - 1) (am_row N 64 f) = kk (am_row N 64 f') ∧ Tb 1048576 (N 11 0) U n 0 f' := by
  intro e
  induction e with
  | zero =>
    intro n1 f he hn1 hT
    obtain ⟨n1, rfl⟩ : ∃ m, n1 = m + 1 := ⟨n1 - 1, by omega⟩
    refine ⟨f, ?_, hT⟩
    rw [XL_X9_layValues_53_8, XB_X9_layValues_53_8, if_pos (by decide)]
  | succ e ih =>
    intro n1 f he hn1 hT
    have rs := P.1.rs
    obtain ⟨n1, rfl⟩ : ∃ m, n1 = m + 1 := ⟨n1 - 1, by omega⟩
    obtain ⟨f1, a1, a2⟩ := lp_v10 (XB_X9_layValues_53_18 (XL_X9_layValues_53_8 kk n1)) P (U := U) (n := n) (k := e) hn (by omega) (hU e (by omega)) (hO (e + 1) (by omega)) (N 11 0 + 1).toNat 1000 0 f (by omega) (by omega) hT (fun p hp => by omega)
    obtain ⟨f', b1, b2⟩ := ih n1 f1 (by omega) (by omega) a2
    refine ⟨f', ?_, b2⟩
    rw [show ((0 : Nat) : Int) = 0 from rfl] at a1
    rw [XL_X9_layValues_53_8, XB_X9_layValues_53_8, show ((e + 1 : Nat) : Int) - 1 = (e : Int) by omega, wI_of (x := (e : Int)) (by omega) (by omega), if_neg (by omega), a1, XB_X9_layValues_53_18]
    exact b1
theorem sp_values {N : am_M} {cn wh : Int} {C : Nat → Int → Int → Int} (P : MlI N cn wh C) {n : Nat} (hn : n ≤ 20) {goal : Int} (hgo : -1 ≤ goal ∧ goal ≤ 12) : ∃ f, X_X9_layValues_53 n goal N = some (0, am_row N 64 f) ∧ Tb 1048576 (N 11 0) (uO (mv_ N) C (N 14 0) goal n) n 0 f := by
  have rs := P.1.rs
  have hC := P.2.2.2.2
  obtain ⟨f1, a1, a2⟩ := lp_v1 (XB_X9_layValues_53_7 (XL_X9_layValues_53_8 XB_X9_layValues_53_19 1000)) P.1 (g := gO goal) (goal := goal) hn (fun p _ => by unfold gO; split <;> rfl) hgo ((N 11 0 + 1).toNat) 1000 0 (N 64) (by omega) (by omega) (fun p hp => by omega)
  obtain ⟨f2, b1, b2⟩ := lp_v8 XB_X9_layValues_53_19 P (U := uO (mv_ N) C (N 14 0) goal n) hn (fun k hk p => uO_s hk p) (fun k hk q => uO_ok1 hn hC hk q) n 1000 f1 (Nat.le_refl _) (by omega) (fun k h1 h2 p hp => by
    have : k = n := by omega
    subst this
    rw [a2 p hp]
    unfold uO
    rw [Nat.sub_self]; rfl)
  refine ⟨f2, ?_, b2⟩
  rw [show ((0 : Nat) : Int) = 0 from rfl, row_self] at a1
  rw [X_X9_layValues_53, XB_X9_layValues_53_e, a1, XB_X9_layValues_53_7, b1]
  rfl
theorem m_fm1 (k5 : Int → Int → Int → Int → Int → am_M → am_Rs) {M : am_M} {cn wh : Int} {C : Nat → Int → Int → Int} (P : MlI M cn wh C) {V : Int → Option Int} {k : Nat} (hk : k < 20) (hV : ∀ q : Nat, (q : Int) ≤ M 11 0 → M 64 (13 * (k + 1) + q) = enc 1048576 (V q)) (hO : ∀ q, okO (V q) 38000) {r n : Int} {p : Nat} {m : Int} (hp : (p : Int) ≤ M 11 0) (hm : m = -1 ∨ m = 0 ∨ m = 1) (n1 : Nat) {w : Option Int} (hw : okO w 40000) (hW : M 64 (13 * k + p) = enc 1048576 w) : XL_X9_toRow_53_3 k5 (n1 + 1) r n p k m M = if byO (mv_ M) C (M 14 0) V k p m = w then k5 r n p k m M else XL_X9_toRow_53_3 k5 n1 r n p k (m + 1) M := by
  have rs := P.1.rs
  have hb : okO (byO (mv_ M) C (M 14 0) V k p m) 40000 := byO_ok hO P.2.2.2.2
  have e := m_valBy P (f := M 64) hk hV hO (p := (p : Int)) (by omega) hm
  rw [row_self] at e
  have e1 : ∀ _ : Unit, wI (13 * (k : Int) + p) = ((13 * k + p : Nat) : Int) := fun _ => by rw [wI_of (by omega) (by omega)]; push_cast; omega
  rw [XL_X9_toRow_53_3, XB_X9_toRow_53_3, e, ob]
  dsimp +instances only
  rw [e1 (), if_pos (by omega), Int.toNat_natCast, hW, wIm hb, wIm hw]
  by_cases c : byO (mv_ M) C (M 14 0) V k p m = w
  · rw [if_pos ((enc_inj hb hw (by decide)).mpr c), if_pos c]
  · rw [if_neg (fun h => c ((enc_inj hb hw (by decide)).mp h)), if_neg c]
theorem m_fm (k5 : Int → Int → Int → Int → Int → am_M → am_Rs) {M : am_M} {cn wh : Int} {C : Nat → Int → Int → Int} (P : MlI M cn wh C) {n : Nat} (hn : n ≤ 20) {goal : Int} (hT : Tb 1048576 (M 11 0) (uO (mv_ M) C (M 14 0) goal n) n 0 (M 64)) {k : Nat} (hk : k < n) {r v : Int} {p : Nat} (hp : (p : Int) ≤ M 11 0) : XL_X9_toRow_53_3 k5 1000 r v p k (-1) M = k5 r v p k (fmU (mv_ M) C (M 14 0) goal n k p) M := by
  have hC := P.2.2.2.2
  have hV : ∀ q : Nat, (q : Int) ≤ M 11 0 → M 64 (13 * (k + 1) + q) = enc 1048576 (uO (mv_ M) C (M 14 0) goal n (k + 1) q) := fun q hq => hT (k + 1) (by omega) (by omega) q hq
  have hO : ∀ q, okO (uO (mv_ M) C (M 14 0) goal n (k + 1) q) 38000 := fun q => uO_ok1 hn hC (by omega) q
  have hw := uO_ok (mv := mv_ M) (d := M 14 0) (goal := goal) hn hC k p
  have hW := hT k (by omega) (by omega) p hp
  have e1 : XL_X9_toRow_53_3 k5 1000 r v p k (-1) M = _ := m_fm1 k5 P (by omega) hV hO hp (m := -1) (Or.inl rfl) 999 hw hW
  have e2 : XL_X9_toRow_53_3 k5 999 r v p k (-1 + 1) M = _ := m_fm1 k5 P (by omega) hV hO hp (m := -1 + 1) (Or.inr (Or.inl rfl)) 998 hw hW
  have e3 : XL_X9_toRow_53_3 k5 998 r v p k (-1 + 1 + 1) M = _ := m_fm1 k5 P (by omega) hV hO hp (m := -1 + 1 + 1) (Or.inr (Or.inr rfl)) 997 hw hW
  have h1 := stO_one (mv := mv_ M) (C := C) (d := M 14 0) (V := uO (mv_ M) C (M 14 0) goal n (k + 1)) (k := k) (p := p)
  rw [← uO_s hk] at h1
  rw [e1, e2, e3]
  unfold fmU fmO
  by_cases c1 : byO (mv_ M) C (M 14 0) (uO (mv_ M) C (M 14 0) goal n (k + 1)) k p (-1) = uO (mv_ M) C (M 14 0) goal n k p
  · rw [if_pos c1, if_pos c1]
  · rw [if_neg c1, if_neg c1]
    by_cases c2 : byO (mv_ M) C (M 14 0) (uO (mv_ M) C (M 14 0) goal n (k + 1)) k p 0 = uO (mv_ M) C (M 14 0) goal n k p
    · rw [if_pos (show byO (mv_ M) C (M 14 0) (uO (mv_ M) C (M 14 0) goal n (k + 1)) k p (-1 + 1) = uO (mv_ M) C (M 14 0) goal n k p from c2), if_pos c2]; rfl
    · rw [if_neg (show ¬ byO (mv_ M) C (M 14 0) (uO (mv_ M) C (M 14 0) goal n (k + 1)) k p (-1 + 1) = uO (mv_ M) C (M 14 0) goal n k p from c2), if_neg c2]
      rcases h1 with h1 | h1 | h1
      · exact absurd h1 c1
      · exact absurd h1 c2
      · rw [if_pos (show byO (mv_ M) C (M 14 0) (uO (mv_ M) C (M 14 0) goal n (k + 1)) k p (-1 + 1 + 1) = uO (mv_ M) C (M 14 0) goal n k p from h1), if_pos h1]; rfl
theorem lp_toRow (k6 : am_M → am_Rs) {M : am_M} {cn wh : Int} {C : Nat → Int → Int → Int} (P : MlI M cn wh C) {n : Nat} (hn : n ≤ 20) {goal : Int} (hT : Tb 1048576 (M 11 0) (uO (mv_ M) C (M 14 0) goal n) n 0 (M 64)) {r : Nat} (hr : r < 6) : ∀ (e n1 k : Nat) (p x : Int) (h : Nat → Int), k + e = n → e < n1 → (0 ≤ p ∧ p ≤ M 11 0) → uO (mv_ M) C (M 14 0) goal n k p = some x → XL_X9_toRow_53_1 k6 n1 r n p k (am_row M 58 h) = k6 (am_row M 58 fun j => if 40 * r + k ≤ j ∧ j < 40 * r + n then ptO (mv_ M) C (M 14 0) goal n e k p (j - 40 * r) else h j) := by
  intro e
  induction e with
  | zero =>
    intro n1 k p x h hk hn1 hp hx
    obtain ⟨n1, rfl⟩ : ∃ m, n1 = m + 1 := ⟨n1 - 1, by omega⟩
    rw [XL_X9_toRow_53_1, XB_X9_toRow_53_1, wI_of (x := (k : Int)) (by omega) (by omega), wI_of (x := (n : Int)) (by omega) (by omega), if_neg (by omega)]
    refine congrArg (fun F => k6 (am_row M 58 F)) (funext fun j => ?_)
    rw [if_neg (by omega)]
  | succ e ih =>
    intro n1 k p x h hk hn1 hp hx
    have rs := P.1.rs
    obtain ⟨n1, rfl⟩ : ∃ m, n1 = m + 1 := ⟨n1 - 1, by omega⟩
    obtain ⟨q, rfl⟩ := Int.eq_ofNat_of_zero_le hp.1
    have P' : MlI (am_row M 58 h) cn wh C := P.k (Kc.row (by decide)) rfl rfl
    have fm : XL_X9_toRow_53_3 (XB_X9_toRow_53_5 (XL_X9_toRow_53_1 k6 n1)) 1000 r n q k (-1) (am_row M 58 h) = XB_X9_toRow_53_5 (XL_X9_toRow_53_1 k6 n1) r n q k (fmU (mv_ M) C (M 14 0) goal n k q) (am_row M 58 h) := m_fm (XB_X9_toRow_53_5 (XL_X9_toRow_53_1 k6 n1)) P' hn hT (by omega) hp.2
    have hm := fmU_m (mv_ M) C (M 14 0) goal n k q
    obtain ⟨hs1, y, hy⟩ := fmU_s (show k < n by omega) hx
    have hb := mv_in (M := M) hm hp hs1
    generalize hF : fmU (mv_ M) C (M 14 0) goal n k q = F at fm hm hs1 hy hb
    have e1 : ∀ _ : Unit, wI (40 * (r : Int) + k) = ((40 * r + k : Nat) : Int) := fun _ => by rw [wI_of (by omega) (by omega)]; push_cast; omega
    rw [XL_X9_toRow_53_1, XB_X9_toRow_53_1, wI_of (x := (k : Int)) (by omega) (by omega), wI_of (x := (n : Int)) (by omega) (by omega), if_pos (by omega), fm, XB_X9_toRow_53_5, e1 (), if_pos (by omega), Int.toNat_natCast, up_row, row_row, row_s, ← Int.natCast_succ, ih n1 (k + 1) ((q : Int) + F) y _ (by omega) (by omega) hb hy]
    refine congrArg (fun F => k6 (am_row M 58 F)) (funext fun j => ?_)
    by_cases c1 : j = 40 * r + k
    · subst c1
      rw [if_neg (by omega), if_pos rfl, if_pos (by omega), show 40 * r + k - 40 * r = k by omega, ptO, if_pos rfl, hF]
    · rw [if_neg c1]
      by_cases c2 : 40 * r + (k + 1) ≤ j ∧ j < 40 * r + n
      · rw [if_pos c2, if_pos (by omega), ptO, if_neg (by omega), hF]
      · rw [if_neg c2, if_neg (by omega)]
theorem sp_toRow {M : am_M} {cn wh : Int} {C : Nat → Int → Int → Int} (P : MlI M cn wh C) {n : Nat} (hn : n ≤ 20) {goal : Int} (hT : Tb 1048576 (M 11 0) (uO (mv_ M) C (M 14 0) goal n) n 0 (M 64)) {r : Nat} (hr : r < 6) {x : Int} (hx : uO (mv_ M) C (M 14 0) goal n 0 (M 14 1) = some x) : ∃ h, X_X9_toRow_53 r n M = some (0, am_row (am_up M 57 r n) 58 h) ∧ (∀ j, 40 * r ≤ j → j < 40 * r + n → h j = ptO (mv_ M) C (M 14 0) goal n n 0 (M 14 1) (j - 40 * r)) ∧ ∀ j, (j < 40 * r ∨ 40 * r + 40 ≤ j) → h j = M 58 j := by
  have mk := sp_makeRow (M := M) (r := (r : Int)) (n := (n : Int)) (by omega)
  rw [Int.toNat_natCast] at mk
  obtain ⟨N, hN⟩ : ∃ N, N = am_up M 57 r (n : Int) := ⟨_, rfl⟩
  rw [← hN] at mk
  have PN : MlI N cn wh C := by rw [hN]; exact P.k (Kc.up (by decide)) rfl rfl
  have f : ∀ c, c ≠ 57 → N c = M c := fun c h => by rw [hN, up_a h]
  have km : mv_ N = mv_ M := by funext b m d; unfold mv_; rw [f 11 (by decide), f 12 (by decide)]
  have l := lp_toRow XB_X9_toRow_53_6 PN hn (goal := goal) (r := r) (by rw [km, f 11 (by decide), f 14 (by decide), f 64 (by decide)]; exact hT) hr n 1000 0 (M 14 1) x (fun j => if 40 * (r : Int) ≤ (j : Int) ∧ (j : Int) < 40 * (r : Int) + 40 then 0 else M 58 j) (by omega) (by omega) (by rw [f 11 (by decide)]; exact P.1.r1) (by rw [km, f 14 (by decide)]; exact hx)
  rw [km, f 14 (by decide), show ((0 : Nat) : Int) = 0 from rfl] at l
  refine ⟨fun j => if 40 * r + 0 ≤ j ∧ j < 40 * r + n then ptO (mv_ M) C (M 14 0) goal n n 0 (M 14 1) (j - 40 * r) else if 40 * (r : Int) ≤ (j : Int) ∧ (j : Int) < 40 * (r : Int) + 40 then 0 else M 58 j, ?_, fun j h1 h2 => ?_, fun j h1 => ?_⟩
  · rw [X_X9_toRow_53, XB_X9_toRow_53_e, mk, ob]
    dsimp only
    rw [P.1.d1, l, XB_X9_toRow_53_6, ← hN]
  · exact if_pos (by omega)
  · show (if _ then _ else if _ then _ else _) = _
    rw [if_neg (by omega), if_neg (by omega)]
